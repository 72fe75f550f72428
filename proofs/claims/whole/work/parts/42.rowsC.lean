theorem dX10_init_0 : decode cX10_init 0 = .ok (.aload_n 0, 1) := by decide +kernel
theorem dX10_init_1 : decode cX10_init 1 = .ok (.invokespecial 1, 3) := by decide +kernel
theorem dX10_init_4 : decode cX10_init 4 = .ok (.aload_n 0, 1) := by decide +kernel
theorem dX10_init_5 : decode cX10_init 5 = .ok (.bipush 51, 2) := by decide +kernel
theorem dX10_init_7 : decode cX10_init 7 = .ok (.newarray .int, 2) := by decide +kernel
theorem dX10_init_9 : decode cX10_init 9 = .ok (.putfield 7, 3) := by decide +kernel
theorem dX10_init_12 : decode cX10_init 12 = .ok (.aload_n 0, 1) := by decide +kernel
theorem dX10_init_13 : decode cX10_init 13 = .ok (.sipush 255, 3) := by decide +kernel
theorem dX10_init_16 : decode cX10_init 16 = .ok (.newarray .int, 2) := by decide +kernel
theorem dX10_init_18 : decode cX10_init 18 = .ok (.putfield 13, 3) := by decide +kernel
theorem dX10_init_21 : decode cX10_init 21 = .ok (.aload_n 0, 1) := by decide +kernel
theorem dX10_init_22 : decode cX10_init 22 = .ok (.bipush 51, 2) := by decide +kernel
theorem dX10_init_24 : decode cX10_init 24 = .ok (.newarray .int, 2) := by decide +kernel
theorem dX10_init_26 : decode cX10_init 26 = .ok (.putfield 16, 3) := by decide +kernel
theorem dX10_init_29 : decode cX10_init 29 = .ok (.aload_n 0, 1) := by decide +kernel
theorem dX10_init_30 : decode cX10_init 30 = .ok (.bipush 51, 2) := by decide +kernel
theorem dX10_init_32 : decode cX10_init 32 = .ok (.newarray .int, 2) := by decide +kernel
theorem dX10_init_34 : decode cX10_init 34 = .ok (.putfield 19, 3) := by decide +kernel
theorem dX10_init_37 : decode cX10_init 37 = .ok (.aload_n 0, 1) := by decide +kernel
theorem dX10_init_38 : decode cX10_init 38 = .ok (.bipush 60, 2) := by decide +kernel
theorem dX10_init_40 : decode cX10_init 40 = .ok (.newarray .int, 2) := by decide +kernel
theorem dX10_init_42 : decode cX10_init 42 = .ok (.putfield 22, 3) := by decide +kernel
theorem dX10_init_45 : decode cX10_init 45 = .ok (.aload_n 0, 1) := by decide +kernel
theorem dX10_init_46 : decode cX10_init 46 = .ok (.bipush 108, 2) := by decide +kernel
theorem dX10_init_48 : decode cX10_init 48 = .ok (.newarray .int, 2) := by decide +kernel
theorem dX10_init_50 : decode cX10_init 50 = .ok (.putfield 25, 3) := by decide +kernel
theorem dX10_init_53 : decode cX10_init 53 = .ok (.aload_n 0, 1) := by decide +kernel
theorem dX10_init_54 : decode cX10_init 54 = .ok (.sipush 400, 3) := by decide +kernel
theorem dX10_init_57 : decode cX10_init 57 = .ok (.newarray .long, 2) := by decide +kernel
theorem dX10_init_59 : decode cX10_init 59 = .ok (.putfield 28, 3) := by decide +kernel
theorem dX10_init_62 : decode cX10_init 62 = .ok (.aload_n 0, 1) := by decide +kernel
theorem dX10_init_63 : decode cX10_init 63 = .ok (.sipush 400, 3) := by decide +kernel
theorem dX10_init_66 : decode cX10_init 66 = .ok (.newarray .long, 2) := by decide +kernel
theorem dX10_init_68 : decode cX10_init 68 = .ok (.putfield 32, 3) := by decide +kernel
theorem dX10_init_71 : decode cX10_init 71 = .ok (.aload_n 0, 1) := by decide +kernel
theorem dX10_init_72 : decode cX10_init 72 = .ok (.sipush 400, 3) := by decide +kernel
theorem dX10_init_75 : decode cX10_init 75 = .ok (.newarray .long, 2) := by decide +kernel
theorem dX10_init_77 : decode cX10_init 77 = .ok (.putfield 35, 3) := by decide +kernel
theorem dX10_init_80 : decode cX10_init 80 = .ok (.aload_n 0, 1) := by decide +kernel
theorem dX10_init_81 : decode cX10_init 81 = .ok (.sipush 400, 3) := by decide +kernel
theorem dX10_init_84 : decode cX10_init 84 = .ok (.newarray .long, 2) := by decide +kernel
theorem dX10_init_86 : decode cX10_init 86 = .ok (.putfield 38, 3) := by decide +kernel
theorem dX10_init_89 : decode cX10_init 89 = .ok (.aload_n 0, 1) := by decide +kernel
theorem dX10_init_90 : decode cX10_init 90 = .ok (.bipush 6, 2) := by decide +kernel
theorem dX10_init_92 : decode cX10_init 92 = .ok (.newarray .int, 2) := by decide +kernel
theorem dX10_init_94 : decode cX10_init 94 = .ok (.putfield 41, 3) := by decide +kernel
theorem dX10_init_97 : decode cX10_init 97 = .ok (.aload_n 0, 1) := by decide +kernel
theorem dX10_init_98 : decode cX10_init 98 = .ok (.iconst 0, 1) := by decide +kernel
theorem dX10_init_99 : decode cX10_init 99 = .ok (.invokevirtual 44, 3) := by decide +kernel
theorem dX10_init_102 : decode cX10_init 102 = .ok (.return_, 1) := by decide +kernel
theorem dX10_thrown_0 : decode cX10_thrown 0 = .ok (.aload_n 0, 1) := by decide +kernel
theorem dX10_thrown_1 : decode cX10_thrown 1 = .ok (.getfield 48, 3) := by decide +kernel
theorem dX10_thrown_4 : decode cX10_thrown 4 = .ok (.ireturn, 1) := by decide +kernel
theorem dX10_throwing_0 : decode cX10_throwing 0 = .ok (.aload_n 0, 1) := by decide +kernel
theorem dX10_throwing_1 : decode cX10_throwing 1 = .ok (.iload_n 1, 1) := by decide +kernel
theorem dX10_throwing_2 : decode cX10_throwing 2 = .ok (.putfield 48, 3) := by decide +kernel
theorem dX10_throwing_5 : decode cX10_throwing 5 = .ok (.iconst 0, 1) := by decide +kernel
theorem dX10_throwing_6 : decode cX10_throwing 6 = .ok (.ireturn, 1) := by decide +kernel
theorem dX10_in_0 : decode cX10_in 0 = .ok (.iload_n 0, 1) := by decide +kernel
theorem dX10_in_1 : decode cX10_in 1 = .ok (.iload_n 1, 1) := by decide +kernel
theorem dX10_in_2 : decode cX10_in 2 = .ok (.if_icmp .lt 12, 3) := by decide +kernel
theorem dX10_in_5 : decode cX10_in 5 = .ok (.iload_n 0, 1) := by decide +kernel
theorem dX10_in_6 : decode cX10_in 6 = .ok (.iload_n 2, 1) := by decide +kernel
theorem dX10_in_7 : decode cX10_in 7 = .ok (.if_icmp .gt 7, 3) := by decide +kernel
theorem dX10_in_10 : decode cX10_in 10 = .ok (.iconst 1, 1) := by decide +kernel
theorem dX10_in_11 : decode cX10_in 11 = .ok (.goto 4, 3) := by decide +kernel
theorem dX10_in_14 : decode cX10_in 14 = .ok (.iconst 0, 1) := by decide +kernel
theorem dX10_in_15 : decode cX10_in 15 = .ok (.ireturn, 1) := by decide +kernel
set_option maxRecDepth 20000 in
theorem ggX10_isPlayer_X10_in : GoodIn wsX10_isPlayer wsX10_in := goodIn_r _ [4] (by decide +kernel) (by decide +kernel)
set_option maxRecDepth 20000 in
theorem gX10_isPlayer_X10_in : GoodIn wsX10_isPlayer (va_wsS RX10 52 yX10_in wsX10_in) := goodIn_app (goodIn_of _ (by decide +kernel)) ggX10_isPlayer_X10_in
theorem dX10_isPlayer_0 : decode cX10_isPlayer 0 = .ok (.iload_n 0, 1) := by decide +kernel
theorem dX10_isPlayer_1 : decode cX10_isPlayer 1 = .ok (.iconst 0, 1) := by decide +kernel
theorem dX10_isPlayer_2 : decode cX10_isPlayer 2 = .ok (.iconst 1, 1) := by decide +kernel
theorem dX10_isPlayer_3 : decode cX10_isPlayer 3 = .ok (.invokestatic 52, 3) := by decide +kernel
theorem dX10_isPlayer_6 : decode cX10_isPlayer 6 = .ok (.ireturn, 1) := by decide +kernel
set_option maxRecDepth 20000 in
theorem ggX10_isPoint_X10_in : GoodIn wsX10_isPoint wsX10_in := goodIn_r _ [4] (by decide +kernel) (by decide +kernel)
set_option maxRecDepth 20000 in
theorem gX10_isPoint_X10_in : GoodIn wsX10_isPoint (va_wsS RX10 52 yX10_in wsX10_in) := goodIn_app (goodIn_of _ (by decide +kernel)) ggX10_isPoint_X10_in
theorem dX10_isPoint_0 : decode cX10_isPoint 0 = .ok (.iload_n 0, 1) := by decide +kernel
theorem dX10_isPoint_1 : decode cX10_isPoint 1 = .ok (.iconst 0, 1) := by decide +kernel
theorem dX10_isPoint_2 : decode cX10_isPoint 2 = .ok (.bipush 15, 2) := by decide +kernel
theorem dX10_isPoint_4 : decode cX10_isPoint 4 = .ok (.invokestatic 52, 3) := by decide +kernel
theorem dX10_isPoint_7 : decode cX10_isPoint 7 = .ok (.ireturn, 1) := by decide +kernel
theorem dX10_save_0 : decode cX10_save 0 = .ok (.aload_n 0, 1) := by decide +kernel
theorem dX10_save_1 : decode cX10_save 1 = .ok (.getfield 56, 3) := by decide +kernel
theorem dX10_save_4 : decode cX10_save 4 = .ok (.iconst 5, 1) := by decide +kernel
theorem dX10_save_5 : decode cX10_save 5 = .ok (.if_icmp .ne 43, 3) := by decide +kernel
theorem dX10_save_8 : decode cX10_save 8 = .ok (.iconst 0, 1) := by decide +kernel
theorem dX10_save_9 : decode cX10_save 9 = .ok (.istore_n 1, 1) := by decide +kernel
theorem dX10_save_10 : decode cX10_save 10 = .ok (.iload_n 1, 1) := by decide +kernel
theorem dX10_save_11 : decode cX10_save 11 = .ok (.sipush 204, 3) := by decide +kernel
theorem dX10_save_14 : decode cX10_save 14 = .ok (.if_icmp .ge 24, 3) := by decide +kernel
theorem dX10_save_17 : decode cX10_save 17 = .ok (.aload_n 0, 1) := by decide +kernel
theorem dX10_save_18 : decode cX10_save 18 = .ok (.getfield 13, 3) := by decide +kernel
theorem dX10_save_21 : decode cX10_save 21 = .ok (.iload_n 1, 1) := by decide +kernel
theorem dX10_save_22 : decode cX10_save 22 = .ok (.aload_n 0, 1) := by decide +kernel
theorem dX10_save_23 : decode cX10_save 23 = .ok (.getfield 13, 3) := by decide +kernel
theorem dX10_save_26 : decode cX10_save 26 = .ok (.bipush 51, 2) := by decide +kernel
theorem dX10_save_28 : decode cX10_save 28 = .ok (.iload_n 1, 1) := by decide +kernel
theorem dX10_save_29 : decode cX10_save 29 = .ok (.iadd, 1) := by decide +kernel
theorem dX10_save_30 : decode cX10_save 30 = .ok (.iaload, 1) := by decide +kernel
theorem dX10_save_31 : decode cX10_save 31 = .ok (.iastore, 1) := by decide +kernel
theorem dX10_save_32 : decode cX10_save 32 = .ok (.iinc 1 1, 3) := by decide +kernel
theorem dX10_save_35 : decode cX10_save 35 = .ok (.goto (-25), 3) := by decide +kernel
theorem dX10_save_38 : decode cX10_save 38 = .ok (.aload_n 0, 1) := by decide +kernel
theorem dX10_save_39 : decode cX10_save 39 = .ok (.dup, 1) := by decide +kernel
theorem dX10_save_40 : decode cX10_save 40 = .ok (.getfield 56, 3) := by decide +kernel
theorem dX10_save_43 : decode cX10_save 43 = .ok (.iconst 1, 1) := by decide +kernel
theorem dX10_save_44 : decode cX10_save 44 = .ok (.isub, 1) := by decide +kernel
theorem dX10_save_45 : decode cX10_save 45 = .ok (.putfield 56, 3) := by decide +kernel
theorem dX10_save_48 : decode cX10_save 48 = .ok (.iconst 0, 1) := by decide +kernel
theorem dX10_save_49 : decode cX10_save 49 = .ok (.istore_n 1, 1) := by decide +kernel
theorem dX10_save_50 : decode cX10_save 50 = .ok (.iload_n 1, 1) := by decide +kernel
theorem dX10_save_51 : decode cX10_save 51 = .ok (.bipush 51, 2) := by decide +kernel
theorem dX10_save_53 : decode cX10_save 53 = .ok (.if_icmp .ge 29, 3) := by decide +kernel
theorem dX10_save_56 : decode cX10_save 56 = .ok (.aload_n 0, 1) := by decide +kernel
theorem dX10_save_57 : decode cX10_save 57 = .ok (.getfield 13, 3) := by decide +kernel
theorem dX10_save_60 : decode cX10_save 60 = .ok (.bipush 51, 2) := by decide +kernel
theorem dX10_save_62 : decode cX10_save 62 = .ok (.aload_n 0, 1) := by decide +kernel
theorem dX10_save_63 : decode cX10_save 63 = .ok (.getfield 56, 3) := by decide +kernel
theorem dX10_save_66 : decode cX10_save 66 = .ok (.imul, 1) := by decide +kernel
theorem dX10_save_67 : decode cX10_save 67 = .ok (.iload_n 1, 1) := by decide +kernel
theorem dX10_save_68 : decode cX10_save 68 = .ok (.iadd, 1) := by decide +kernel
theorem dX10_save_69 : decode cX10_save 69 = .ok (.aload_n 0, 1) := by decide +kernel
theorem dX10_save_70 : decode cX10_save 70 = .ok (.getfield 7, 3) := by decide +kernel
theorem dX10_save_73 : decode cX10_save 73 = .ok (.iload_n 1, 1) := by decide +kernel
theorem dX10_save_74 : decode cX10_save 74 = .ok (.iaload, 1) := by decide +kernel
theorem dX10_save_75 : decode cX10_save 75 = .ok (.iastore, 1) := by decide +kernel
theorem dX10_save_76 : decode cX10_save 76 = .ok (.iinc 1 1, 3) := by decide +kernel
theorem dX10_save_79 : decode cX10_save 79 = .ok (.goto (-29), 3) := by decide +kernel
theorem dX10_save_82 : decode cX10_save 82 = .ok (.aload_n 0, 1) := by decide +kernel
theorem dX10_save_83 : decode cX10_save 83 = .ok (.dup, 1) := by decide +kernel
theorem dX10_save_84 : decode cX10_save 84 = .ok (.getfield 56, 3) := by decide +kernel
theorem dX10_save_87 : decode cX10_save 87 = .ok (.iconst 1, 1) := by decide +kernel
theorem dX10_save_88 : decode cX10_save 88 = .ok (.iadd, 1) := by decide +kernel
theorem dX10_save_89 : decode cX10_save 89 = .ok (.putfield 56, 3) := by decide +kernel
theorem dX10_save_92 : decode cX10_save 92 = .ok (.return_, 1) := by decide +kernel
theorem dX10_at_0 : decode cX10_at 0 = .ok (.aload_n 0, 1) := by decide +kernel
theorem dX10_at_1 : decode cX10_at 1 = .ok (.getfield 7, 3) := by decide +kernel
theorem dX10_at_4 : decode cX10_at 4 = .ok (.bipush 18, 2) := by decide +kernel
theorem dX10_at_6 : decode cX10_at 6 = .ok (.iload_n 1, 1) := by decide +kernel
theorem dX10_at_7 : decode cX10_at 7 = .ok (.imul, 1) := by decide +kernel
theorem dX10_at_8 : decode cX10_at 8 = .ok (.iload_n 2, 1) := by decide +kernel
theorem dX10_at_9 : decode cX10_at 9 = .ok (.iadd, 1) := by decide +kernel
theorem dX10_at_10 : decode cX10_at 10 = .ok (.iconst 1, 1) := by decide +kernel
theorem dX10_at_11 : decode cX10_at 11 = .ok (.iadd, 1) := by decide +kernel
theorem dX10_at_12 : decode cX10_at 12 = .ok (.iaload, 1) := by decide +kernel
theorem dX10_at_13 : decode cX10_at 13 = .ok (.ireturn, 1) := by decide +kernel
theorem dX10_grow_0 : decode cX10_grow 0 = .ok (.aload_n 0, 1) := by decide +kernel
theorem dX10_grow_1 : decode cX10_grow 1 = .ok (.getfield 7, 3) := by decide +kernel
theorem dX10_grow_4 : decode cX10_grow 4 = .ok (.bipush 18, 2) := by decide +kernel
theorem dX10_grow_6 : decode cX10_grow 6 = .ok (.iload_n 1, 1) := by decide +kernel
theorem dX10_grow_7 : decode cX10_grow 7 = .ok (.imul, 1) := by decide +kernel
theorem dX10_grow_8 : decode cX10_grow 8 = .ok (.iload_n 2, 1) := by decide +kernel
theorem dX10_grow_9 : decode cX10_grow 9 = .ok (.iadd, 1) := by decide +kernel
theorem dX10_grow_10 : decode cX10_grow 10 = .ok (.iconst 1, 1) := by decide +kernel
theorem dX10_grow_11 : decode cX10_grow 11 = .ok (.iadd, 1) := by decide +kernel
theorem dX10_grow_12 : decode cX10_grow 12 = .ok (.dup2, 1) := by decide +kernel
theorem dX10_grow_13 : decode cX10_grow 13 = .ok (.iaload, 1) := by decide +kernel
theorem dX10_grow_14 : decode cX10_grow 14 = .ok (.iload_n 3, 1) := by decide +kernel
theorem dX10_grow_15 : decode cX10_grow 15 = .ok (.iadd, 1) := by decide +kernel
theorem dX10_grow_16 : decode cX10_grow 16 = .ok (.iastore, 1) := by decide +kernel
theorem dX10_grow_17 : decode cX10_grow 17 = .ok (.return_, 1) := by decide +kernel
set_option maxRecDepth 20000 in
theorem ggX10_begins_X10_grow : GoodIn wsX10_begins wsX10_grow := goodIn_r _ [6, 1, 11, 12, 13, 14, 15, 16, 17, 18, 19, 20, 21, 22, 23, 24, 25, 26, 27, 28, 29, 30] (by decide +kernel) (by decide +kernel)
set_option maxRecDepth 20000 in
theorem gX10_begins_X10_grow : GoodIn wsX10_begins (wsV RX10 59 RX10 yX10_grow wsX10_grow) := goodIn_app (goodIn_of _ (by decide +kernel)) ggX10_begins_X10_grow
set_option maxRecDepth 20000 in
theorem ggX10_begins_X10_clearDice : GoodIn wsX10_begins wsX10_clearDice := goodIn_r _ [10, 1, 11, 12, 13, 14, 15, 16, 17, 18, 19, 20, 21, 22, 23, 24, 25, 26, 27, 28, 29, 30] (by decide +kernel) (by decide +kernel)
set_option maxRecDepth 20000 in
theorem gX10_begins_X10_clearDice : GoodIn wsX10_begins (wsV RX10 63 RX10 yX10_clearDice wsX10_clearDice) := goodIn_app (goodIn_of _ (by decide +kernel)) ggX10_begins_X10_clearDice
theorem dX10_begins_0 : decode cX10_begins 0 = .ok (.iconst 0, 1) := by decide +kernel
theorem dX10_begins_1 : decode cX10_begins 1 = .ok (.istore_n 2, 1) := by decide +kernel
theorem dX10_begins_2 : decode cX10_begins 2 = .ok (.iload_n 2, 1) := by decide +kernel
theorem dX10_begins_3 : decode cX10_begins 3 = .ok (.bipush 36, 2) := by decide +kernel
theorem dX10_begins_5 : decode cX10_begins 5 = .ok (.if_icmp .ge 16, 3) := by decide +kernel
theorem dX10_begins_8 : decode cX10_begins 8 = .ok (.aload_n 0, 1) := by decide +kernel
theorem dX10_begins_9 : decode cX10_begins 9 = .ok (.getfield 7, 3) := by decide +kernel
theorem dX10_begins_12 : decode cX10_begins 12 = .ok (.iload_n 2, 1) := by decide +kernel
theorem dX10_begins_13 : decode cX10_begins 13 = .ok (.iconst 0, 1) := by decide +kernel
theorem dX10_begins_14 : decode cX10_begins 14 = .ok (.iastore, 1) := by decide +kernel
theorem dX10_begins_15 : decode cX10_begins 15 = .ok (.iinc 2 1, 3) := by decide +kernel
theorem dX10_begins_18 : decode cX10_begins 18 = .ok (.goto (-16), 3) := by decide +kernel
theorem dX10_begins_21 : decode cX10_begins 21 = .ok (.aload_n 0, 1) := by decide +kernel
theorem dX10_begins_22 : decode cX10_begins 22 = .ok (.iconst 0, 1) := by decide +kernel
theorem dX10_begins_23 : decode cX10_begins 23 = .ok (.iconst 0, 1) := by decide +kernel
theorem dX10_begins_24 : decode cX10_begins 24 = .ok (.iconst 2, 1) := by decide +kernel
theorem dX10_begins_25 : decode cX10_begins 25 = .ok (.invokevirtual 59, 3) := by decide +kernel
theorem dX10_begins_28 : decode cX10_begins 28 = .ok (.aload_n 0, 1) := by decide +kernel
theorem dX10_begins_29 : decode cX10_begins 29 = .ok (.iconst 0, 1) := by decide +kernel
theorem dX10_begins_30 : decode cX10_begins 30 = .ok (.iconst 4, 1) := by decide +kernel
theorem dX10_begins_31 : decode cX10_begins 31 = .ok (.iconst 2, 1) := by decide +kernel
theorem dX10_begins_32 : decode cX10_begins 32 = .ok (.invokevirtual 59, 3) := by decide +kernel
theorem dX10_begins_35 : decode cX10_begins 35 = .ok (.aload_n 0, 1) := by decide +kernel
theorem dX10_begins_36 : decode cX10_begins 36 = .ok (.iconst 0, 1) := by decide +kernel
theorem dX10_begins_37 : decode cX10_begins 37 = .ok (.bipush 7, 2) := by decide +kernel
theorem dX10_begins_39 : decode cX10_begins 39 = .ok (.iconst 2, 1) := by decide +kernel
theorem dX10_begins_40 : decode cX10_begins 40 = .ok (.invokevirtual 59, 3) := by decide +kernel
theorem dX10_begins_43 : decode cX10_begins 43 = .ok (.aload_n 0, 1) := by decide +kernel
theorem dX10_begins_44 : decode cX10_begins 44 = .ok (.iconst 1, 1) := by decide +kernel
theorem dX10_begins_45 : decode cX10_begins 45 = .ok (.bipush 15, 2) := by decide +kernel
theorem dX10_begins_47 : decode cX10_begins 47 = .ok (.iconst 2, 1) := by decide +kernel
theorem dX10_begins_48 : decode cX10_begins 48 = .ok (.invokevirtual 59, 3) := by decide +kernel
theorem dX10_begins_51 : decode cX10_begins 51 = .ok (.aload_n 0, 1) := by decide +kernel
theorem dX10_begins_52 : decode cX10_begins 52 = .ok (.iconst 1, 1) := by decide +kernel
theorem dX10_begins_53 : decode cX10_begins 53 = .ok (.bipush 11, 2) := by decide +kernel
theorem dX10_begins_55 : decode cX10_begins 55 = .ok (.iconst 2, 1) := by decide +kernel
theorem dX10_begins_56 : decode cX10_begins 56 = .ok (.invokevirtual 59, 3) := by decide +kernel
theorem dX10_begins_59 : decode cX10_begins 59 = .ok (.aload_n 0, 1) := by decide +kernel
theorem dX10_begins_60 : decode cX10_begins 60 = .ok (.iconst 1, 1) := by decide +kernel
theorem dX10_begins_61 : decode cX10_begins 61 = .ok (.bipush 8, 2) := by decide +kernel
theorem dX10_begins_63 : decode cX10_begins 63 = .ok (.iconst 2, 1) := by decide +kernel
theorem dX10_begins_64 : decode cX10_begins 64 = .ok (.invokevirtual 59, 3) := by decide +kernel
theorem dX10_begins_67 : decode cX10_begins 67 = .ok (.aload_n 0, 1) := by decide +kernel
theorem dX10_begins_68 : decode cX10_begins 68 = .ok (.getfield 7, 3) := by decide +kernel
theorem dX10_begins_71 : decode cX10_begins 71 = .ok (.bipush 36, 2) := by decide +kernel
theorem dX10_begins_73 : decode cX10_begins 73 = .ok (.iload_n 1, 1) := by decide +kernel
theorem dX10_begins_74 : decode cX10_begins 74 = .ok (.iastore, 1) := by decide +kernel
theorem dX10_begins_75 : decode cX10_begins 75 = .ok (.aload_n 0, 1) := by decide +kernel
theorem dX10_begins_76 : decode cX10_begins 76 = .ok (.getfield 7, 3) := by decide +kernel
theorem dX10_begins_79 : decode cX10_begins 79 = .ok (.bipush 37, 2) := by decide +kernel
theorem dX10_begins_81 : decode cX10_begins 81 = .ok (.iconst 0, 1) := by decide +kernel
theorem dX10_begins_82 : decode cX10_begins 82 = .ok (.iastore, 1) := by decide +kernel
theorem dX10_begins_83 : decode cX10_begins 83 = .ok (.aload_n 0, 1) := by decide +kernel
theorem dX10_begins_84 : decode cX10_begins 84 = .ok (.getfield 7, 3) := by decide +kernel
theorem dX10_begins_87 : decode cX10_begins 87 = .ok (.bipush 43, 2) := by decide +kernel
theorem dX10_begins_89 : decode cX10_begins 89 = .ok (.iconst 1, 1) := by decide +kernel
theorem dX10_begins_90 : decode cX10_begins 90 = .ok (.iastore, 1) := by decide +kernel
theorem dX10_begins_91 : decode cX10_begins 91 = .ok (.aload_n 0, 1) := by decide +kernel
theorem dX10_begins_92 : decode cX10_begins 92 = .ok (.getfield 7, 3) := by decide +kernel
theorem dX10_begins_95 : decode cX10_begins 95 = .ok (.bipush 44, 2) := by decide +kernel
theorem dX10_begins_97 : decode cX10_begins 97 = .ok (.iconst (-1), 1) := by decide +kernel
theorem dX10_begins_98 : decode cX10_begins 98 = .ok (.iastore, 1) := by decide +kernel
theorem dX10_begins_99 : decode cX10_begins 99 = .ok (.aload_n 0, 1) := by decide +kernel
theorem dX10_begins_100 : decode cX10_begins 100 = .ok (.invokevirtual 63, 3) := by decide +kernel
theorem dX10_begins_103 : decode cX10_begins 103 = .ok (.return_, 1) := by decide +kernel
theorem dX10_clearDice_0 : decode cX10_clearDice 0 = .ok (.aload_n 0, 1) := by decide +kernel
theorem dX10_clearDice_1 : decode cX10_clearDice 1 = .ok (.getfield 7, 3) := by decide +kernel
theorem dX10_clearDice_4 : decode cX10_clearDice 4 = .ok (.bipush 38, 2) := by decide +kernel
theorem dX10_clearDice_6 : decode cX10_clearDice 6 = .ok (.iconst 0, 1) := by decide +kernel
theorem dX10_clearDice_7 : decode cX10_clearDice 7 = .ok (.iastore, 1) := by decide +kernel
theorem dX10_clearDice_8 : decode cX10_clearDice 8 = .ok (.iconst 0, 1) := by decide +kernel
theorem dX10_clearDice_9 : decode cX10_clearDice 9 = .ok (.istore_n 1, 1) := by decide +kernel
theorem dX10_clearDice_10 : decode cX10_clearDice 10 = .ok (.iload_n 1, 1) := by decide +kernel
theorem dX10_clearDice_11 : decode cX10_clearDice 11 = .ok (.iconst 4, 1) := by decide +kernel
theorem dX10_clearDice_12 : decode cX10_clearDice 12 = .ok (.if_icmp .ge 19, 3) := by decide +kernel
theorem dX10_clearDice_15 : decode cX10_clearDice 15 = .ok (.aload_n 0, 1) := by decide +kernel
theorem dX10_clearDice_16 : decode cX10_clearDice 16 = .ok (.getfield 7, 3) := by decide +kernel
theorem dX10_clearDice_19 : decode cX10_clearDice 19 = .ok (.bipush 39, 2) := by decide +kernel
theorem dX10_clearDice_21 : decode cX10_clearDice 21 = .ok (.iload_n 1, 1) := by decide +kernel
theorem dX10_clearDice_22 : decode cX10_clearDice 22 = .ok (.iadd, 1) := by decide +kernel
theorem dX10_clearDice_23 : decode cX10_clearDice 23 = .ok (.iconst 0, 1) := by decide +kernel
theorem dX10_clearDice_24 : decode cX10_clearDice 24 = .ok (.iastore, 1) := by decide +kernel
theorem dX10_clearDice_25 : decode cX10_clearDice 25 = .ok (.iinc 1 1, 3) := by decide +kernel
theorem dX10_clearDice_28 : decode cX10_clearDice 28 = .ok (.goto (-18), 3) := by decide +kernel
theorem dX10_clearDice_31 : decode cX10_clearDice 31 = .ok (.return_, 1) := by decide +kernel
theorem dX10_way_0 : decode cX10_way 0 = .ok (.iload_n 1, 1) := by decide +kernel
theorem dX10_way_1 : decode cX10_way 1 = .ok (.iconst (-1), 1) := by decide +kernel
theorem dX10_way_2 : decode cX10_way 2 = .ok (.if_icmp .ne 8, 3) := by decide +kernel
theorem dX10_way_5 : decode cX10_way 5 = .ok (.bipush 17, 2) := by decide +kernel
theorem dX10_way_7 : decode cX10_way 7 = .ok (.goto 27, 3) := by decide +kernel
theorem dX10_way_10 : decode cX10_way 10 = .ok (.iload_n 1, 1) := by decide +kernel
theorem dX10_way_11 : decode cX10_way 11 = .ok (.bipush 16, 2) := by decide +kernel
theorem dX10_way_13 : decode cX10_way 13 = .ok (.if_icmp .ne 7, 3) := by decide +kernel
theorem dX10_way_16 : decode cX10_way 16 = .ok (.iconst 0, 1) := by decide +kernel
theorem dX10_way_17 : decode cX10_way 17 = .ok (.goto 17, 3) := by decide +kernel
theorem dX10_way_20 : decode cX10_way 20 = .ok (.iload_n 0, 1) := by decide +kernel
theorem dX10_way_21 : decode cX10_way 21 = .ok (.ifCond .ne 10, 3) := by decide +kernel
theorem dX10_way_24 : decode cX10_way 24 = .ok (.bipush 16, 2) := by decide +kernel
theorem dX10_way_26 : decode cX10_way 26 = .ok (.iload_n 1, 1) := by decide +kernel
theorem dX10_way_27 : decode cX10_way 27 = .ok (.isub, 1) := by decide +kernel
theorem dX10_way_28 : decode cX10_way 28 = .ok (.goto 6, 3) := by decide +kernel
theorem dX10_way_31 : decode cX10_way 31 = .ok (.iload_n 1, 1) := by decide +kernel
theorem dX10_way_32 : decode cX10_way 32 = .ok (.iconst 1, 1) := by decide +kernel
theorem dX10_way_33 : decode cX10_way 33 = .ok (.iadd, 1) := by decide +kernel
theorem dX10_way_34 : decode cX10_way 34 = .ok (.ireturn, 1) := by decide +kernel
theorem dX10_target_0 : decode cX10_target 0 = .ok (.iload_n 0, 1) := by decide +kernel
theorem dX10_target_1 : decode cX10_target 1 = .ok (.ifCond .ne 9, 3) := by decide +kernel
theorem dX10_target_4 : decode cX10_target 4 = .ok (.iload_n 1, 1) := by decide +kernel
theorem dX10_target_5 : decode cX10_target 5 = .ok (.iload_n 2, 1) := by decide +kernel
theorem dX10_target_6 : decode cX10_target 6 = .ok (.iadd, 1) := by decide +kernel
theorem dX10_target_7 : decode cX10_target 7 = .ok (.goto 18, 3) := by decide +kernel
theorem dX10_target_10 : decode cX10_target 10 = .ok (.iload_n 1, 1) := by decide +kernel
theorem dX10_target_11 : decode cX10_target 11 = .ok (.iconst (-1), 1) := by decide +kernel
theorem dX10_target_12 : decode cX10_target 12 = .ok (.if_icmp .ne 10, 3) := by decide +kernel
theorem dX10_target_15 : decode cX10_target 15 = .ok (.bipush 16, 2) := by decide +kernel
theorem dX10_target_17 : decode cX10_target 17 = .ok (.iload_n 2, 1) := by decide +kernel
theorem dX10_target_18 : decode cX10_target 18 = .ok (.isub, 1) := by decide +kernel
theorem dX10_target_19 : decode cX10_target 19 = .ok (.goto 6, 3) := by decide +kernel
theorem dX10_target_22 : decode cX10_target 22 = .ok (.iload_n 1, 1) := by decide +kernel
theorem dX10_target_23 : decode cX10_target 23 = .ok (.iload_n 2, 1) := by decide +kernel
theorem dX10_target_24 : decode cX10_target 24 = .ok (.isub, 1) := by decide +kernel
theorem dX10_target_25 : decode cX10_target 25 = .ok (.istore_n 3, 1) := by decide +kernel
theorem dX10_target_26 : decode cX10_target 26 = .ok (.iload_n 3, 1) := by decide +kernel
theorem dX10_target_27 : decode cX10_target 27 = .ok (.ifCond .ge 8, 3) := by decide +kernel
theorem dX10_target_30 : decode cX10_target 30 = .ok (.bipush 16, 2) := by decide +kernel
theorem dX10_target_32 : decode cX10_target 32 = .ok (.goto 15, 3) := by decide +kernel
theorem dX10_target_35 : decode cX10_target 35 = .ok (.iload_n 3, 1) := by decide +kernel
theorem dX10_target_36 : decode cX10_target 36 = .ok (.bipush 16, 2) := by decide +kernel
theorem dX10_target_38 : decode cX10_target 38 = .ok (.if_icmp .le 8, 3) := by decide +kernel
theorem dX10_target_41 : decode cX10_target 41 = .ok (.bipush 16, 2) := by decide +kernel
theorem dX10_target_43 : decode cX10_target 43 = .ok (.goto 4, 3) := by decide +kernel
theorem dX10_target_46 : decode cX10_target 46 = .ok (.iload_n 3, 1) := by decide +kernel
theorem dX10_target_47 : decode cX10_target 47 = .ok (.ireturn, 1) := by decide +kernel
set_option maxRecDepth 20000 in
theorem ggX10_isBlock_X10_at : GoodIn wsX10_isBlock wsX10_at := goodIn_r _ [5, 6, 7, 8, 9, 10, 11, 12, 13, 14, 15, 16, 17, 18, 19, 20, 21, 22, 23, 24, 25, 26] (by decide +kernel) (by decide +kernel)
set_option maxRecDepth 20000 in
theorem gX10_isBlock_X10_at : GoodIn wsX10_isBlock (wsV RX10 66 RX10 yX10_at wsX10_at) := goodIn_app (goodIn_of _ (by decide +kernel)) ggX10_isBlock_X10_at
theorem dX10_isBlock_0 : decode cX10_isBlock 0 = .ok (.iload_n 2, 1) := by decide +kernel
theorem dX10_isBlock_1 : decode cX10_isBlock 1 = .ok (.bipush 16, 2) := by decide +kernel
theorem dX10_isBlock_3 : decode cX10_isBlock 3 = .ok (.if_icmp .eq 17, 3) := by decide +kernel
theorem dX10_isBlock_6 : decode cX10_isBlock 6 = .ok (.aload_n 0, 1) := by decide +kernel
theorem dX10_isBlock_7 : decode cX10_isBlock 7 = .ok (.iload_n 1, 1) := by decide +kernel
theorem dX10_isBlock_8 : decode cX10_isBlock 8 = .ok (.iload_n 2, 1) := by decide +kernel
theorem dX10_isBlock_9 : decode cX10_isBlock 9 = .ok (.invokevirtual 66, 3) := by decide +kernel
theorem dX10_isBlock_12 : decode cX10_isBlock 12 = .ok (.iconst 1, 1) := by decide +kernel
theorem dX10_isBlock_13 : decode cX10_isBlock 13 = .ok (.if_icmp .le 7, 3) := by decide +kernel
theorem dX10_isBlock_16 : decode cX10_isBlock 16 = .ok (.iconst 1, 1) := by decide +kernel
theorem dX10_isBlock_17 : decode cX10_isBlock 17 = .ok (.goto 4, 3) := by decide +kernel
theorem dX10_isBlock_20 : decode cX10_isBlock 20 = .ok (.iconst 0, 1) := by decide +kernel
theorem dX10_isBlock_21 : decode cX10_isBlock 21 = .ok (.ireturn, 1) := by decide +kernel
set_option maxRecDepth 20000 in
theorem ggX10_longest_X10_at : GoodIn wsX10_longest wsX10_at := goodIn_r _ [5, 6, 10, 11, 12, 13, 14, 15, 16, 17, 18, 19, 20, 21, 22, 23, 24, 25, 26, 27, 28, 29] (by decide +kernel) (by decide +kernel)
set_option maxRecDepth 20000 in
theorem gX10_longest_X10_at : GoodIn wsX10_longest (wsV RX10 66 RX10 yX10_at wsX10_at) := goodIn_app (goodIn_of _ (by decide +kernel)) ggX10_longest_X10_at
set_option maxRecDepth 20000 in
theorem ggX10_longest_X10_way : GoodIn wsX10_longest wsX10_way := goodIn_r _ [9] (by decide +kernel) (by decide +kernel)
set_option maxRecDepth 20000 in
theorem gX10_longest_X10_way : GoodIn wsX10_longest (va_wsS RX10 70 yX10_way wsX10_way) := goodIn_app (goodIn_of _ (by decide +kernel)) ggX10_longest_X10_way
theorem dX10_longest_0 : decode cX10_longest 0 = .ok (.iconst 0, 1) := by decide +kernel
theorem dX10_longest_1 : decode cX10_longest 1 = .ok (.istore_n 2, 1) := by decide +kernel
theorem dX10_longest_2 : decode cX10_longest 2 = .ok (.iconst (-1), 1) := by decide +kernel
theorem dX10_longest_3 : decode cX10_longest 3 = .ok (.istore_n 3, 1) := by decide +kernel
theorem dX10_longest_4 : decode cX10_longest 4 = .ok (.iload_n 3, 1) := by decide +kernel
theorem dX10_longest_5 : decode cX10_longest 5 = .ok (.bipush 16, 2) := by decide +kernel
theorem dX10_longest_7 : decode cX10_longest 7 = .ok (.if_icmp .ge 42, 3) := by decide +kernel
theorem dX10_longest_10 : decode cX10_longest 10 = .ok (.aload_n 0, 1) := by decide +kernel
theorem dX10_longest_11 : decode cX10_longest 11 = .ok (.iload_n 1, 1) := by decide +kernel
theorem dX10_longest_12 : decode cX10_longest 12 = .ok (.iload_n 3, 1) := by decide +kernel
theorem dX10_longest_13 : decode cX10_longest 13 = .ok (.invokevirtual 66, 3) := by decide +kernel
theorem dX10_longest_16 : decode cX10_longest 16 = .ok (.ifCond .le 11, 3) := by decide +kernel
theorem dX10_longest_19 : decode cX10_longest 19 = .ok (.iload_n 1, 1) := by decide +kernel
theorem dX10_longest_20 : decode cX10_longest 20 = .ok (.iload_n 3, 1) := by decide +kernel
theorem dX10_longest_21 : decode cX10_longest 21 = .ok (.invokestatic 70, 3) := by decide +kernel
theorem dX10_longest_24 : decode cX10_longest 24 = .ok (.goto 4, 3) := by decide +kernel
theorem dX10_longest_27 : decode cX10_longest 27 = .ok (.iconst 0, 1) := by decide +kernel
theorem dX10_longest_28 : decode cX10_longest 28 = .ok (.istore 4, 2) := by decide +kernel
theorem dX10_longest_30 : decode cX10_longest 30 = .ok (.iload 4, 2) := by decide +kernel
theorem dX10_longest_32 : decode cX10_longest 32 = .ok (.iload_n 2, 1) := by decide +kernel
theorem dX10_longest_33 : decode cX10_longest 33 = .ok (.if_icmp .le 8, 3) := by decide +kernel
theorem dX10_longest_36 : decode cX10_longest 36 = .ok (.iload 4, 2) := by decide +kernel
theorem dX10_longest_38 : decode cX10_longest 38 = .ok (.goto 4, 3) := by decide +kernel
theorem dX10_longest_41 : decode cX10_longest 41 = .ok (.iload_n 2, 1) := by decide +kernel
theorem dX10_longest_42 : decode cX10_longest 42 = .ok (.istore_n 2, 1) := by decide +kernel
theorem dX10_longest_43 : decode cX10_longest 43 = .ok (.iinc 3 1, 3) := by decide +kernel
theorem dX10_longest_46 : decode cX10_longest 46 = .ok (.goto (-42), 3) := by decide +kernel
theorem dX10_longest_49 : decode cX10_longest 49 = .ok (.iload_n 2, 1) := by decide +kernel
theorem dX10_longest_50 : decode cX10_longest 50 = .ok (.ireturn, 1) := by decide +kernel
set_option maxRecDepth 20000 in
theorem ggX10_refused_X10_at : GoodIn wsX10_refused wsX10_at := goodIn_r _ [5, 6, 21, 22, 23, 24, 25, 26, 27, 28, 29, 30, 31, 32, 33, 34, 35, 36, 37, 38, 39, 40] (by decide +kernel) (by decide +kernel)
set_option maxRecDepth 20000 in
theorem gX10_refused_X10_at : GoodIn wsX10_refused (wsV RX10 66 RX10 yX10_at wsX10_at) := goodIn_app (goodIn_of _ (by decide +kernel)) ggX10_refused_X10_at
set_option maxRecDepth 20000 in
theorem ggX10_refused_X10_target : GoodIn wsX10_refused wsX10_target := goodIn_r _ [9] (by decide +kernel) (by decide +kernel)
set_option maxRecDepth 20000 in
theorem gX10_refused_X10_target : GoodIn wsX10_refused (va_wsS RX10 73 yX10_target wsX10_target) := goodIn_app (goodIn_of _ (by decide +kernel)) ggX10_refused_X10_target
set_option maxRecDepth 20000 in
theorem ggX10_refused_X10_isBlock : GoodIn wsX10_refused wsX10_isBlock := goodIn_r _ [13, 1, 2, 3, 4, 5, 6, 21, 22, 23, 24, 25, 26, 27, 28, 29, 30, 31, 32, 33, 34, 35, 36, 37, 38, 39, 40] (by decide +kernel) (by decide +kernel)
set_option maxRecDepth 20000 in
theorem gX10_refused_X10_isBlock : GoodIn wsX10_refused (wsV RX10 77 RX10 yX10_isBlock wsX10_isBlock) := goodIn_app (goodIn_of _ (by decide +kernel)) ggX10_refused_X10_isBlock
set_option maxRecDepth 20000 in
theorem ggX10_refused_X10_longest : GoodIn wsX10_refused wsX10_longest := goodIn_r _ [17, 1, 2, 3, 4, 5, 6, 18, 19, 20, 21, 22, 23, 24, 25, 26, 27, 28, 29, 30, 31, 32, 33, 34, 35, 36, 37, 38, 39, 40] (by decide +kernel) (by decide +kernel)
set_option maxRecDepth 20000 in
theorem gX10_refused_X10_longest : GoodIn wsX10_refused (wsV RX10 81 RX10 yX10_longest wsX10_longest) := goodIn_app (goodIn_of _ (by decide +kernel)) ggX10_refused_X10_longest
set_option maxRecDepth 20000 in
theorem ggX10_refused_X10_way : GoodIn wsX10_refused wsX10_way := goodIn_r _ [20] (by decide +kernel) (by decide +kernel)
set_option maxRecDepth 20000 in
theorem gX10_refused_X10_way : GoodIn wsX10_refused (va_wsS RX10 70 yX10_way wsX10_way) := goodIn_app (goodIn_of _ (by decide +kernel)) ggX10_refused_X10_way
theorem dX10_refused_0 : decode cX10_refused 0 = .ok (.aload_n 0, 1) := by decide +kernel
theorem dX10_refused_1 : decode cX10_refused 1 = .ok (.iload_n 1, 1) := by decide +kernel
theorem dX10_refused_2 : decode cX10_refused 2 = .ok (.iload_n 2, 1) := by decide +kernel
theorem dX10_refused_3 : decode cX10_refused 3 = .ok (.invokevirtual 66, 3) := by decide +kernel
theorem dX10_refused_6 : decode cX10_refused 6 = .ok (.ifCond .ne 5, 3) := by decide +kernel
theorem dX10_refused_9 : decode cX10_refused 9 = .ok (.iconst 2, 1) := by decide +kernel
theorem dX10_refused_10 : decode cX10_refused 10 = .ok (.ireturn, 1) := by decide +kernel
theorem dX10_refused_11 : decode cX10_refused 11 = .ok (.iload_n 2, 1) := by decide +kernel
theorem dX10_refused_12 : decode cX10_refused 12 = .ok (.iconst (-1), 1) := by decide +kernel
theorem dX10_refused_13 : decode cX10_refused 13 = .ok (.if_icmp .eq 14, 3) := by decide +kernel
theorem dX10_refused_16 : decode cX10_refused 16 = .ok (.aload_n 0, 1) := by decide +kernel
theorem dX10_refused_17 : decode cX10_refused 17 = .ok (.iload_n 1, 1) := by decide +kernel
theorem dX10_refused_18 : decode cX10_refused 18 = .ok (.iconst (-1), 1) := by decide +kernel
theorem dX10_refused_19 : decode cX10_refused 19 = .ok (.invokevirtual 66, 3) := by decide +kernel
theorem dX10_refused_22 : decode cX10_refused 22 = .ok (.ifCond .le 5, 3) := by decide +kernel
theorem dX10_refused_25 : decode cX10_refused 25 = .ok (.iconst 3, 1) := by decide +kernel
theorem dX10_refused_26 : decode cX10_refused 26 = .ok (.ireturn, 1) := by decide +kernel
theorem dX10_refused_27 : decode cX10_refused 27 = .ok (.iload_n 1, 1) := by decide +kernel
theorem dX10_refused_28 : decode cX10_refused 28 = .ok (.iload_n 2, 1) := by decide +kernel
theorem dX10_refused_29 : decode cX10_refused 29 = .ok (.iload_n 3, 1) := by decide +kernel
theorem dX10_refused_30 : decode cX10_refused 30 = .ok (.invokestatic 73, 3) := by decide +kernel
theorem dX10_refused_33 : decode cX10_refused 33 = .ok (.istore 4, 2) := by decide +kernel
theorem dX10_refused_35 : decode cX10_refused 35 = .ok (.aload_n 0, 1) := by decide +kernel
theorem dX10_refused_36 : decode cX10_refused 36 = .ok (.iconst 1, 1) := by decide +kernel
theorem dX10_refused_37 : decode cX10_refused 37 = .ok (.iload_n 1, 1) := by decide +kernel
theorem dX10_refused_38 : decode cX10_refused 38 = .ok (.isub, 1) := by decide +kernel
theorem dX10_refused_39 : decode cX10_refused 39 = .ok (.iload 4, 2) := by decide +kernel
theorem dX10_refused_41 : decode cX10_refused 41 = .ok (.invokevirtual 77, 3) := by decide +kernel
theorem dX10_refused_44 : decode cX10_refused 44 = .ok (.ifCond .eq 5, 3) := by decide +kernel
theorem dX10_refused_47 : decode cX10_refused 47 = .ok (.iconst 4, 1) := by decide +kernel
theorem dX10_refused_48 : decode cX10_refused 48 = .ok (.ireturn, 1) := by decide +kernel
theorem dX10_refused_49 : decode cX10_refused 49 = .ok (.aload_n 0, 1) := by decide +kernel
theorem dX10_refused_50 : decode cX10_refused 50 = .ok (.iload_n 1, 1) := by decide +kernel
theorem dX10_refused_51 : decode cX10_refused 51 = .ok (.invokevirtual 81, 3) := by decide +kernel
theorem dX10_refused_54 : decode cX10_refused 54 = .ok (.iconst 4, 1) := by decide +kernel
theorem dX10_refused_55 : decode cX10_refused 55 = .ok (.if_icmp .gt 25, 3) := by decide +kernel
theorem dX10_refused_58 : decode cX10_refused 58 = .ok (.iload_n 3, 1) := by decide +kernel
theorem dX10_refused_59 : decode cX10_refused 59 = .ok (.iload_n 1, 1) := by decide +kernel
theorem dX10_refused_60 : decode cX10_refused 60 = .ok (.iload_n 2, 1) := by decide +kernel
theorem dX10_refused_61 : decode cX10_refused 61 = .ok (.invokestatic 70, 3) := by decide +kernel
theorem dX10_refused_64 : decode cX10_refused 64 = .ok (.if_icmp .le 20, 3) := by decide +kernel
theorem dX10_refused_67 : decode cX10_refused 67 = .ok (.aload_n 0, 1) := by decide +kernel
theorem dX10_refused_68 : decode cX10_refused 68 = .ok (.iload_n 1, 1) := by decide +kernel
theorem dX10_refused_69 : decode cX10_refused 69 = .ok (.invokevirtual 81, 3) := by decide +kernel
theorem dX10_refused_72 : decode cX10_refused 72 = .ok (.iload_n 1, 1) := by decide +kernel
theorem dX10_refused_73 : decode cX10_refused 73 = .ok (.iload_n 2, 1) := by decide +kernel
theorem dX10_refused_74 : decode cX10_refused 74 = .ok (.invokestatic 70, 3) := by decide +kernel
theorem dX10_refused_77 : decode cX10_refused 77 = .ok (.if_icmp .le 7, 3) := by decide +kernel
theorem dX10_refused_80 : decode cX10_refused 80 = .ok (.iconst 1, 1) := by decide +kernel
theorem dX10_refused_81 : decode cX10_refused 81 = .ok (.goto 4, 3) := by decide +kernel
theorem dX10_refused_84 : decode cX10_refused 84 = .ok (.iconst 0, 1) := by decide +kernel
theorem dX10_refused_85 : decode cX10_refused 85 = .ok (.istore 5, 2) := by decide +kernel
theorem dX10_refused_87 : decode cX10_refused 87 = .ok (.iload 4, 2) := by decide +kernel
theorem dX10_refused_89 : decode cX10_refused 89 = .ok (.bipush 16, 2) := by decide +kernel
theorem dX10_refused_91 : decode cX10_refused 91 = .ok (.if_icmp .ne 12, 3) := by decide +kernel
theorem dX10_refused_94 : decode cX10_refused 94 = .ok (.iload 5, 2) := by decide +kernel
theorem dX10_refused_96 : decode cX10_refused 96 = .ok (.ifCond .eq 7, 3) := by decide +kernel
theorem dX10_refused_99 : decode cX10_refused 99 = .ok (.iconst 5, 1) := by decide +kernel
theorem dX10_refused_100 : decode cX10_refused 100 = .ok (.goto 4, 3) := by decide +kernel
theorem dX10_refused_103 : decode cX10_refused 103 = .ok (.iconst 0, 1) := by decide +kernel
theorem dX10_refused_104 : decode cX10_refused 104 = .ok (.ireturn, 1) := by decide +kernel
set_option maxRecDepth 20000 in
theorem ggX10_moves_X10_target : GoodIn wsX10_moves wsX10_target := goodIn_r _ [4] (by decide +kernel) (by decide +kernel)
set_option maxRecDepth 20000 in
theorem gX10_moves_X10_target : GoodIn wsX10_moves (va_wsS RX10 73 yX10_target wsX10_target) := goodIn_app (goodIn_of _ (by decide +kernel)) ggX10_moves_X10_target
set_option maxRecDepth 20000 in
theorem ggX10_moves_X10_at : GoodIn wsX10_moves wsX10_at := goodIn_r _ [8, 9, 14, 15, 16, 17, 18, 19, 20, 21, 22, 23, 24, 25, 26, 27, 28, 29, 30, 31, 32, 33] (by decide +kernel) (by decide +kernel)
set_option maxRecDepth 20000 in
theorem gX10_moves_X10_at : GoodIn wsX10_moves (wsV RX10 66 RX10 yX10_at wsX10_at) := goodIn_app (goodIn_of _ (by decide +kernel)) ggX10_moves_X10_at
set_option maxRecDepth 20000 in
theorem ggX10_moves_X10_grow : GoodIn wsX10_moves wsX10_grow := goodIn_r _ [13, 9, 14, 15, 16, 17, 18, 19, 20, 21, 22, 23, 24, 25, 26, 27, 28, 29, 30, 31, 32, 33] (by decide +kernel) (by decide +kernel)
set_option maxRecDepth 20000 in
theorem gX10_moves_X10_grow : GoodIn wsX10_moves (wsV RX10 59 RX10 yX10_grow wsX10_grow) := goodIn_app (goodIn_of _ (by decide +kernel)) ggX10_moves_X10_grow
theorem dX10_moves_0 : decode cX10_moves 0 = .ok (.iload_n 1, 1) := by decide +kernel
theorem dX10_moves_1 : decode cX10_moves 1 = .ok (.iload_n 2, 1) := by decide +kernel
theorem dX10_moves_2 : decode cX10_moves 2 = .ok (.iload_n 3, 1) := by decide +kernel
theorem dX10_moves_3 : decode cX10_moves 3 = .ok (.invokestatic 73, 3) := by decide +kernel
theorem dX10_moves_6 : decode cX10_moves 6 = .ok (.istore 4, 2) := by decide +kernel
theorem dX10_moves_8 : decode cX10_moves 8 = .ok (.iload 4, 2) := by decide +kernel
theorem dX10_moves_10 : decode cX10_moves 10 = .ok (.bipush 16, 2) := by decide +kernel
theorem dX10_moves_12 : decode cX10_moves 12 = .ok (.if_icmp .eq 20, 3) := by decide +kernel
theorem dX10_moves_15 : decode cX10_moves 15 = .ok (.aload_n 0, 1) := by decide +kernel
theorem dX10_moves_16 : decode cX10_moves 16 = .ok (.iconst 1, 1) := by decide +kernel
theorem dX10_moves_17 : decode cX10_moves 17 = .ok (.iload_n 1, 1) := by decide +kernel
theorem dX10_moves_18 : decode cX10_moves 18 = .ok (.isub, 1) := by decide +kernel
theorem dX10_moves_19 : decode cX10_moves 19 = .ok (.iload 4, 2) := by decide +kernel
theorem dX10_moves_21 : decode cX10_moves 21 = .ok (.invokevirtual 66, 3) := by decide +kernel
theorem dX10_moves_24 : decode cX10_moves 24 = .ok (.iconst 1, 1) := by decide +kernel
theorem dX10_moves_25 : decode cX10_moves 25 = .ok (.if_icmp .ne 7, 3) := by decide +kernel
theorem dX10_moves_28 : decode cX10_moves 28 = .ok (.iconst 1, 1) := by decide +kernel
theorem dX10_moves_29 : decode cX10_moves 29 = .ok (.goto 4, 3) := by decide +kernel
theorem dX10_moves_32 : decode cX10_moves 32 = .ok (.iconst 0, 1) := by decide +kernel
theorem dX10_moves_33 : decode cX10_moves 33 = .ok (.istore 5, 2) := by decide +kernel
theorem dX10_moves_35 : decode cX10_moves 35 = .ok (.iload 5, 2) := by decide +kernel
theorem dX10_moves_37 : decode cX10_moves 37 = .ok (.ifCond .eq 22, 3) := by decide +kernel
theorem dX10_moves_40 : decode cX10_moves 40 = .ok (.aload_n 0, 1) := by decide +kernel
theorem dX10_moves_41 : decode cX10_moves 41 = .ok (.iconst 1, 1) := by decide +kernel
theorem dX10_moves_42 : decode cX10_moves 42 = .ok (.iload_n 1, 1) := by decide +kernel
theorem dX10_moves_43 : decode cX10_moves 43 = .ok (.isub, 1) := by decide +kernel
theorem dX10_moves_44 : decode cX10_moves 44 = .ok (.iload 4, 2) := by decide +kernel
theorem dX10_moves_46 : decode cX10_moves 46 = .ok (.iconst (-1), 1) := by decide +kernel
theorem dX10_moves_47 : decode cX10_moves 47 = .ok (.invokevirtual 59, 3) := by decide +kernel
theorem dX10_moves_50 : decode cX10_moves 50 = .ok (.aload_n 0, 1) := by decide +kernel
theorem dX10_moves_51 : decode cX10_moves 51 = .ok (.iconst 1, 1) := by decide +kernel
theorem dX10_moves_52 : decode cX10_moves 52 = .ok (.iload_n 1, 1) := by decide +kernel
theorem dX10_moves_53 : decode cX10_moves 53 = .ok (.isub, 1) := by decide +kernel
theorem dX10_moves_54 : decode cX10_moves 54 = .ok (.iconst (-1), 1) := by decide +kernel
theorem dX10_moves_55 : decode cX10_moves 55 = .ok (.iconst 1, 1) := by decide +kernel
theorem dX10_moves_56 : decode cX10_moves 56 = .ok (.invokevirtual 59, 3) := by decide +kernel
theorem dX10_moves_59 : decode cX10_moves 59 = .ok (.aload_n 0, 1) := by decide +kernel
theorem dX10_moves_60 : decode cX10_moves 60 = .ok (.iload_n 1, 1) := by decide +kernel
theorem dX10_moves_61 : decode cX10_moves 61 = .ok (.iload_n 2, 1) := by decide +kernel
theorem dX10_moves_62 : decode cX10_moves 62 = .ok (.iconst (-1), 1) := by decide +kernel
theorem dX10_moves_63 : decode cX10_moves 63 = .ok (.invokevirtual 59, 3) := by decide +kernel
theorem dX10_moves_66 : decode cX10_moves 66 = .ok (.aload_n 0, 1) := by decide +kernel
theorem dX10_moves_67 : decode cX10_moves 67 = .ok (.iload_n 1, 1) := by decide +kernel
theorem dX10_moves_68 : decode cX10_moves 68 = .ok (.iload 4, 2) := by decide +kernel
theorem dX10_moves_70 : decode cX10_moves 70 = .ok (.iconst 1, 1) := by decide +kernel
theorem dX10_moves_71 : decode cX10_moves 71 = .ok (.invokevirtual 59, 3) := by decide +kernel
theorem dX10_moves_74 : decode cX10_moves 74 = .ok (.iload 5, 2) := by decide +kernel
theorem dX10_moves_76 : decode cX10_moves 76 = .ok (.ireturn, 1) := by decide +kernel
set_option maxRecDepth 20000 in
theorem ggX10_isAny_X10_refused : GoodIn wsX10_isAny wsX10_refused := goodIn_r _ [5, 6, 7, 8, 4, 9, 10, 11, 12, 13, 14, 15, 16, 17, 18, 19, 20, 21, 22, 23, 24, 25, 26, 27, 28, 29, 30, 31, 32, 33, 34, 35, 36, 37, 38, 39, 40, 41, 42, 43, 44] (by decide +kernel) (by decide +kernel)
set_option maxRecDepth 20000 in
theorem gX10_isAny_X10_refused : GoodIn wsX10_isAny (wsV RX10 85 RX10 yX10_refused wsX10_refused) := goodIn_app (goodIn_of _ (by decide +kernel)) ggX10_isAny_X10_refused
theorem dX10_isAny_0 : decode cX10_isAny 0 = .ok (.iconst (-1), 1) := by decide +kernel
theorem dX10_isAny_1 : decode cX10_isAny 1 = .ok (.istore_n 3, 1) := by decide +kernel
theorem dX10_isAny_2 : decode cX10_isAny 2 = .ok (.iload_n 3, 1) := by decide +kernel
theorem dX10_isAny_3 : decode cX10_isAny 3 = .ok (.bipush 16, 2) := by decide +kernel
theorem dX10_isAny_5 : decode cX10_isAny 5 = .ok (.if_icmp .ge 21, 3) := by decide +kernel
theorem dX10_isAny_8 : decode cX10_isAny 8 = .ok (.aload_n 0, 1) := by decide +kernel
theorem dX10_isAny_9 : decode cX10_isAny 9 = .ok (.iload_n 1, 1) := by decide +kernel
theorem dX10_isAny_10 : decode cX10_isAny 10 = .ok (.iload_n 3, 1) := by decide +kernel
theorem dX10_isAny_11 : decode cX10_isAny 11 = .ok (.iload_n 2, 1) := by decide +kernel
theorem dX10_isAny_12 : decode cX10_isAny 12 = .ok (.invokevirtual 85, 3) := by decide +kernel
theorem dX10_isAny_15 : decode cX10_isAny 15 = .ok (.ifCond .ne 5, 3) := by decide +kernel
theorem dX10_isAny_18 : decode cX10_isAny 18 = .ok (.iconst 1, 1) := by decide +kernel
theorem dX10_isAny_19 : decode cX10_isAny 19 = .ok (.ireturn, 1) := by decide +kernel
theorem dX10_isAny_20 : decode cX10_isAny 20 = .ok (.iinc 3 1, 3) := by decide +kernel
theorem dX10_isAny_23 : decode cX10_isAny 23 = .ok (.goto (-21), 3) := by decide +kernel
theorem dX10_isAny_26 : decode cX10_isAny 26 = .ok (.iconst 0, 1) := by decide +kernel
theorem dX10_isAny_27 : decode cX10_isAny 27 = .ok (.ireturn, 1) := by decide +kernel
theorem dX10_lays_0 : decode cX10_lays 0 = .ok (.iconst 0, 1) := by decide +kernel
theorem dX10_lays_1 : decode cX10_lays 1 = .ok (.istore_n 2, 1) := by decide +kernel
theorem dX10_lays_2 : decode cX10_lays 2 = .ok (.iload_n 2, 1) := by decide +kernel
theorem dX10_lays_3 : decode cX10_lays 3 = .ok (.bipush 36, 2) := by decide +kernel
theorem dX10_lays_5 : decode cX10_lays 5 = .ok (.if_icmp .ge 26, 3) := by decide +kernel
theorem dX10_lays_8 : decode cX10_lays 8 = .ok (.aload_n 0, 1) := by decide +kernel
theorem dX10_lays_9 : decode cX10_lays 9 = .ok (.getfield 25, 3) := by decide +kernel
theorem dX10_lays_12 : decode cX10_lays 12 = .ok (.bipush 36, 2) := by decide +kernel
theorem dX10_lays_14 : decode cX10_lays 14 = .ok (.iload_n 1, 1) := by decide +kernel
theorem dX10_lays_15 : decode cX10_lays 15 = .ok (.imul, 1) := by decide +kernel
theorem dX10_lays_16 : decode cX10_lays 16 = .ok (.iload_n 2, 1) := by decide +kernel
theorem dX10_lays_17 : decode cX10_lays 17 = .ok (.iadd, 1) := by decide +kernel
theorem dX10_lays_18 : decode cX10_lays 18 = .ok (.aload_n 0, 1) := by decide +kernel
theorem dX10_lays_19 : decode cX10_lays 19 = .ok (.getfield 7, 3) := by decide +kernel
theorem dX10_lays_22 : decode cX10_lays 22 = .ok (.iload_n 2, 1) := by decide +kernel
theorem dX10_lays_23 : decode cX10_lays 23 = .ok (.iaload, 1) := by decide +kernel
theorem dX10_lays_24 : decode cX10_lays 24 = .ok (.iastore, 1) := by decide +kernel
theorem dX10_lays_25 : decode cX10_lays 25 = .ok (.iinc 2 1, 3) := by decide +kernel
theorem dX10_lays_28 : decode cX10_lays 28 = .ok (.goto (-26), 3) := by decide +kernel
theorem dX10_lays_31 : decode cX10_lays 31 = .ok (.return_, 1) := by decide +kernel
theorem dX10_takesUp_0 : decode cX10_takesUp 0 = .ok (.iconst 0, 1) := by decide +kernel
theorem dX10_takesUp_1 : decode cX10_takesUp 1 = .ok (.istore_n 2, 1) := by decide +kernel
theorem dX10_takesUp_2 : decode cX10_takesUp 2 = .ok (.iload_n 2, 1) := by decide +kernel
theorem dX10_takesUp_3 : decode cX10_takesUp 3 = .ok (.bipush 36, 2) := by decide +kernel
theorem dX10_takesUp_5 : decode cX10_takesUp 5 = .ok (.if_icmp .ge 26, 3) := by decide +kernel
theorem dX10_takesUp_8 : decode cX10_takesUp 8 = .ok (.aload_n 0, 1) := by decide +kernel
theorem dX10_takesUp_9 : decode cX10_takesUp 9 = .ok (.getfield 7, 3) := by decide +kernel
theorem dX10_takesUp_12 : decode cX10_takesUp 12 = .ok (.iload_n 2, 1) := by decide +kernel
theorem dX10_takesUp_13 : decode cX10_takesUp 13 = .ok (.aload_n 0, 1) := by decide +kernel
theorem dX10_takesUp_14 : decode cX10_takesUp 14 = .ok (.getfield 25, 3) := by decide +kernel
theorem dX10_takesUp_17 : decode cX10_takesUp 17 = .ok (.bipush 36, 2) := by decide +kernel
theorem dX10_takesUp_19 : decode cX10_takesUp 19 = .ok (.iload_n 1, 1) := by decide +kernel
theorem dX10_takesUp_20 : decode cX10_takesUp 20 = .ok (.imul, 1) := by decide +kernel
theorem dX10_takesUp_21 : decode cX10_takesUp 21 = .ok (.iload_n 2, 1) := by decide +kernel
theorem dX10_takesUp_22 : decode cX10_takesUp 22 = .ok (.iadd, 1) := by decide +kernel
theorem dX10_takesUp_23 : decode cX10_takesUp 23 = .ok (.iaload, 1) := by decide +kernel
theorem dX10_takesUp_24 : decode cX10_takesUp 24 = .ok (.iastore, 1) := by decide +kernel
theorem dX10_takesUp_25 : decode cX10_takesUp 25 = .ok (.iinc 2 1, 3) := by decide +kernel
theorem dX10_takesUp_28 : decode cX10_takesUp 28 = .ok (.goto (-26), 3) := by decide +kernel
theorem dX10_takesUp_31 : decode cX10_takesUp 31 = .ok (.return_, 1) := by decide +kernel
set_option maxRecDepth 20000 in
theorem ggX10_isSecond_X10_lays : GoodIn wsX10_isSecond wsX10_lays := goodIn_r _ [5, 6, 7, 46, 47, 48, 49, 50, 51, 52, 53, 54, 55, 56, 57, 58, 59, 60, 61, 62, 63, 64, 65] (by decide +kernel) (by decide +kernel)
set_option maxRecDepth 20000 in
theorem gX10_isSecond_X10_lays : GoodIn wsX10_isSecond (wsV RX10 88 RX10 yX10_lays wsX10_lays) := goodIn_app (goodIn_of _ (by decide +kernel)) ggX10_isSecond_X10_lays
set_option maxRecDepth 20000 in
theorem ggX10_isSecond_X10_moves : GoodIn wsX10_isSecond wsX10_moves := goodIn_r _ [11, 12, 13, 4, 14, 15, 16, 17, 18, 7, 19, 20, 21, 22, 46, 47, 48, 49, 50, 51, 52, 53, 54, 55, 56, 57, 58, 59, 60, 61, 62, 63, 64, 65] (by decide +kernel) (by decide +kernel)
set_option maxRecDepth 20000 in
theorem gX10_isSecond_X10_moves : GoodIn wsX10_isSecond (wsV RX10 91 RX10 yX10_moves wsX10_moves) := goodIn_app (goodIn_of _ (by decide +kernel)) ggX10_isSecond_X10_moves
set_option maxRecDepth 20000 in
theorem ggX10_isSecond_X10_isAny : GoodIn wsX10_isSecond wsX10_isAny := goodIn_r _ [26, 27, 28, 29, 4, 30, 15, 16, 17, 18, 7, 12, 13, 14, 31, 32, 33, 34, 35, 36, 37, 38, 39, 40, 41, 46, 47, 48, 49, 50, 51, 52, 53, 54, 55, 56, 57, 58, 59, 60, 61, 62, 63, 64, 65] (by decide +kernel) (by decide +kernel)
set_option maxRecDepth 20000 in
theorem gX10_isSecond_X10_isAny : GoodIn wsX10_isSecond (wsV RX10 94 RX10 yX10_isAny wsX10_isAny) := goodIn_app (goodIn_of _ (by decide +kernel)) ggX10_isSecond_X10_isAny
set_option maxRecDepth 20000 in
theorem ggX10_isSecond_X10_takesUp : GoodIn wsX10_isSecond wsX10_takesUp := goodIn_r _ [45, 7, 6, 46, 47, 48, 49, 50, 51, 52, 53, 54, 55, 56, 57, 58, 59, 60, 61, 62, 63, 64, 65] (by decide +kernel) (by decide +kernel)
set_option maxRecDepth 20000 in
theorem gX10_isSecond_X10_takesUp : GoodIn wsX10_isSecond (wsV RX10 97 RX10 yX10_takesUp wsX10_takesUp) := goodIn_app (goodIn_of _ (by decide +kernel)) ggX10_isSecond_X10_takesUp
theorem dX10_isSecond_0 : decode cX10_isSecond 0 = .ok (.aload_n 0, 1) := by decide +kernel
theorem dX10_isSecond_1 : decode cX10_isSecond 1 = .ok (.iconst 2, 1) := by decide +kernel
theorem dX10_isSecond_2 : decode cX10_isSecond 2 = .ok (.invokevirtual 88, 3) := by decide +kernel
theorem dX10_isSecond_5 : decode cX10_isSecond 5 = .ok (.aload_n 0, 1) := by decide +kernel
theorem dX10_isSecond_6 : decode cX10_isSecond 6 = .ok (.iload_n 1, 1) := by decide +kernel
theorem dX10_isSecond_7 : decode cX10_isSecond 7 = .ok (.iload_n 2, 1) := by decide +kernel
theorem dX10_isSecond_8 : decode cX10_isSecond 8 = .ok (.iload_n 3, 1) := by decide +kernel
theorem dX10_isSecond_9 : decode cX10_isSecond 9 = .ok (.invokevirtual 91, 3) := by decide +kernel
theorem dX10_isSecond_12 : decode cX10_isSecond 12 = .ok (.istore 5, 2) := by decide +kernel
theorem dX10_isSecond_14 : decode cX10_isSecond 14 = .ok (.aload_n 0, 1) := by decide +kernel
theorem dX10_isSecond_15 : decode cX10_isSecond 15 = .ok (.iload_n 1, 1) := by decide +kernel
theorem dX10_isSecond_16 : decode cX10_isSecond 16 = .ok (.iload 4, 2) := by decide +kernel
theorem dX10_isSecond_18 : decode cX10_isSecond 18 = .ok (.invokevirtual 94, 3) := by decide +kernel
theorem dX10_isSecond_21 : decode cX10_isSecond 21 = .ok (.istore 6, 2) := by decide +kernel
theorem dX10_isSecond_23 : decode cX10_isSecond 23 = .ok (.aload_n 0, 1) := by decide +kernel
theorem dX10_isSecond_24 : decode cX10_isSecond 24 = .ok (.iconst 2, 1) := by decide +kernel
theorem dX10_isSecond_25 : decode cX10_isSecond 25 = .ok (.invokevirtual 97, 3) := by decide +kernel
theorem dX10_isSecond_28 : decode cX10_isSecond 28 = .ok (.iload 6, 2) := by decide +kernel
theorem dX10_isSecond_30 : decode cX10_isSecond 30 = .ok (.ireturn, 1) := by decide +kernel
set_option maxRecDepth 20000 in
theorem ggX10_isBoth_X10_refused : GoodIn wsX10_isBoth wsX10_refused := goodIn_r _ [5, 6, 7, 8, 4, 9, 10, 11, 12, 13, 14, 15, 16, 17, 18, 19, 20, 21, 22, 23, 24, 50, 51, 52, 53, 54, 55, 56, 57, 58, 59, 60, 61, 62, 63, 64, 65, 66, 67, 68, 69] (by decide +kernel) (by decide +kernel)
set_option maxRecDepth 20000 in
theorem gX10_isBoth_X10_refused : GoodIn wsX10_isBoth (wsV RX10 85 RX10 yX10_refused wsX10_refused) := goodIn_app (goodIn_of _ (by decide +kernel)) ggX10_isBoth_X10_refused
set_option maxRecDepth 20000 in
theorem ggX10_isBoth_X10_isSecond : GoodIn wsX10_isBoth wsX10_isSecond := goodIn_r _ [28, 29, 30, 31, 4, 32, 33, 10, 34, 35, 36, 37, 11, 12, 13, 6, 7, 8, 9, 38, 39, 40, 41, 42, 43, 44, 45, 1, 2, 3, 5, 14, 15, 16, 17, 18, 19, 20, 21, 22, 23, 24, 46, 47, 48, 49, 50, 51, 52, 53, 54, 55, 56, 57, 58, 59, 60, 61, 62, 63, 64, 65, 66, 67, 68, 69] (by decide +kernel) (by decide +kernel)
set_option maxRecDepth 20000 in
theorem gX10_isBoth_X10_isSecond : GoodIn wsX10_isBoth (wsV RX10 100 RX10 yX10_isSecond wsX10_isSecond) := goodIn_app (goodIn_of _ (by decide +kernel)) ggX10_isBoth_X10_isSecond
theorem dX10_isBoth_0 : decode cX10_isBoth 0 = .ok (.iconst (-1), 1) := by decide +kernel
theorem dX10_isBoth_1 : decode cX10_isBoth 1 = .ok (.istore 4, 2) := by decide +kernel
theorem dX10_isBoth_3 : decode cX10_isBoth 3 = .ok (.iload 4, 2) := by decide +kernel
theorem dX10_isBoth_5 : decode cX10_isBoth 5 = .ok (.bipush 16, 2) := by decide +kernel
theorem dX10_isBoth_7 : decode cX10_isBoth 7 = .ok (.if_icmp .ge 34, 3) := by decide +kernel
theorem dX10_isBoth_10 : decode cX10_isBoth 10 = .ok (.aload_n 0, 1) := by decide +kernel
theorem dX10_isBoth_11 : decode cX10_isBoth 11 = .ok (.iload_n 1, 1) := by decide +kernel
theorem dX10_isBoth_12 : decode cX10_isBoth 12 = .ok (.iload 4, 2) := by decide +kernel
theorem dX10_isBoth_14 : decode cX10_isBoth 14 = .ok (.iload_n 2, 1) := by decide +kernel
theorem dX10_isBoth_15 : decode cX10_isBoth 15 = .ok (.invokevirtual 85, 3) := by decide +kernel
theorem dX10_isBoth_18 : decode cX10_isBoth 18 = .ok (.ifCond .ne 17, 3) := by decide +kernel
theorem dX10_isBoth_21 : decode cX10_isBoth 21 = .ok (.aload_n 0, 1) := by decide +kernel
theorem dX10_isBoth_22 : decode cX10_isBoth 22 = .ok (.iload_n 1, 1) := by decide +kernel
theorem dX10_isBoth_23 : decode cX10_isBoth 23 = .ok (.iload 4, 2) := by decide +kernel
theorem dX10_isBoth_25 : decode cX10_isBoth 25 = .ok (.iload_n 2, 1) := by decide +kernel
theorem dX10_isBoth_26 : decode cX10_isBoth 26 = .ok (.iload_n 3, 1) := by decide +kernel
theorem dX10_isBoth_27 : decode cX10_isBoth 27 = .ok (.invokevirtual 100, 3) := by decide +kernel
theorem dX10_isBoth_30 : decode cX10_isBoth 30 = .ok (.ifCond .eq 5, 3) := by decide +kernel
theorem dX10_isBoth_33 : decode cX10_isBoth 33 = .ok (.iconst 1, 1) := by decide +kernel
theorem dX10_isBoth_34 : decode cX10_isBoth 34 = .ok (.ireturn, 1) := by decide +kernel
theorem dX10_isBoth_35 : decode cX10_isBoth 35 = .ok (.iinc 4 1, 3) := by decide +kernel
theorem dX10_isBoth_38 : decode cX10_isBoth 38 = .ok (.goto (-35), 3) := by decide +kernel
theorem dX10_isBoth_41 : decode cX10_isBoth 41 = .ok (.iconst 0, 1) := by decide +kernel
theorem dX10_isBoth_42 : decode cX10_isBoth 42 = .ok (.ireturn, 1) := by decide +kernel
theorem dX10_areUnlike_0 : decode cX10_areUnlike 0 = .ok (.aload_n 0, 1) := by decide +kernel
theorem dX10_areUnlike_1 : decode cX10_areUnlike 1 = .ok (.getfield 7, 3) := by decide +kernel
theorem dX10_areUnlike_4 : decode cX10_areUnlike 4 = .ok (.bipush 38, 2) := by decide +kernel
theorem dX10_areUnlike_6 : decode cX10_areUnlike 6 = .ok (.iaload, 1) := by decide +kernel
theorem dX10_areUnlike_7 : decode cX10_areUnlike 7 = .ok (.iconst 2, 1) := by decide +kernel
theorem dX10_areUnlike_8 : decode cX10_areUnlike 8 = .ok (.if_icmp .ne 24, 3) := by decide +kernel
theorem dX10_areUnlike_11 : decode cX10_areUnlike 11 = .ok (.aload_n 0, 1) := by decide +kernel
theorem dX10_areUnlike_12 : decode cX10_areUnlike 12 = .ok (.getfield 7, 3) := by decide +kernel
theorem dX10_areUnlike_15 : decode cX10_areUnlike 15 = .ok (.bipush 39, 2) := by decide +kernel
theorem dX10_areUnlike_17 : decode cX10_areUnlike 17 = .ok (.iaload, 1) := by decide +kernel
theorem dX10_areUnlike_18 : decode cX10_areUnlike 18 = .ok (.aload_n 0, 1) := by decide +kernel
theorem dX10_areUnlike_19 : decode cX10_areUnlike 19 = .ok (.getfield 7, 3) := by decide +kernel
theorem dX10_areUnlike_22 : decode cX10_areUnlike 22 = .ok (.bipush 40, 2) := by decide +kernel
theorem dX10_areUnlike_24 : decode cX10_areUnlike 24 = .ok (.iaload, 1) := by decide +kernel
theorem dX10_areUnlike_25 : decode cX10_areUnlike 25 = .ok (.if_icmp .eq 7, 3) := by decide +kernel
theorem dX10_areUnlike_28 : decode cX10_areUnlike 28 = .ok (.iconst 1, 1) := by decide +kernel
theorem dX10_areUnlike_29 : decode cX10_areUnlike 29 = .ok (.goto 4, 3) := by decide +kernel
theorem dX10_areUnlike_32 : decode cX10_areUnlike 32 = .ok (.iconst 0, 1) := by decide +kernel
theorem dX10_areUnlike_33 : decode cX10_areUnlike 33 = .ok (.ireturn, 1) := by decide +kernel
set_option maxRecDepth 20000 in
theorem ggX10_reaches_X10_areUnlike : GoodIn wsX10_reaches wsX10_areUnlike := goodIn_r _ [6, 1, 58, 59, 60, 61, 62, 63, 64, 65, 66, 67, 68, 69, 70, 71, 72, 73, 74, 75, 76, 77] (by decide +kernel) (by decide +kernel)
set_option maxRecDepth 20000 in
theorem gX10_reaches_X10_areUnlike : GoodIn wsX10_reaches (wsV RX10 104 RX10 yX10_areUnlike wsX10_areUnlike) := goodIn_app (goodIn_of _ (by decide +kernel)) ggX10_reaches_X10_areUnlike
set_option maxRecDepth 20000 in
theorem ggX10_reaches_X10_isBoth : GoodIn wsX10_reaches wsX10_isBoth := goodIn_r _ [10, 11, 12, 13, 5, 14, 15, 16, 17, 18, 1, 19, 20, 21, 22, 23, 24, 25, 26, 27, 28, 29, 30, 31, 32, 33, 34, 35, 36, 37, 38, 39, 40, 41, 42, 43, 44, 45, 46, 47, 48, 49, 50, 51, 52, 53, 54, 55, 56, 57, 58, 59, 60, 61, 62, 63, 64, 65, 66, 67, 68, 69, 70, 71, 72, 73, 74, 75, 76, 77] (by decide +kernel) (by decide +kernel)
set_option maxRecDepth 20000 in
theorem gX10_reaches_X10_isBoth : GoodIn wsX10_reaches (wsV RX10 108 RX10 yX10_isBoth wsX10_isBoth) := goodIn_app (goodIn_of _ (by decide +kernel)) ggX10_reaches_X10_isBoth
set_option maxRecDepth 20000 in
theorem ggX10_reaches_X10_isAny : GoodIn wsX10_reaches wsX10_isAny := goodIn_r _ [53, 11, 12, 13, 5, 14, 15, 16, 17, 18, 1, 19, 20, 21, 22, 23, 24, 25, 26, 27, 28, 29, 30, 31, 32, 58, 59, 60, 61, 62, 63, 64, 65, 66, 67, 68, 69, 70, 71, 72, 73, 74, 75, 76, 77] (by decide +kernel) (by decide +kernel)
set_option maxRecDepth 20000 in
theorem gX10_reaches_X10_isAny : GoodIn wsX10_reaches (wsV RX10 94 RX10 yX10_isAny wsX10_isAny) := goodIn_app (goodIn_of _ (by decide +kernel)) ggX10_reaches_X10_isAny
set_option maxRecDepth 20000 in
theorem ggX10_reaches_X10_lays : GoodIn wsX10_reaches wsX10_lays := goodIn_r _ [40, 41, 1, 58, 59, 60, 61, 62, 63, 64, 65, 66, 67, 68, 69, 70, 71, 72, 73, 74, 75, 76, 77] (by decide +kernel) (by decide +kernel)
set_option maxRecDepth 20000 in
theorem gX10_reaches_X10_lays : GoodIn wsX10_reaches (wsV RX10 88 RX10 yX10_lays wsX10_lays) := goodIn_app (goodIn_of _ (by decide +kernel)) ggX10_reaches_X10_lays
set_option maxRecDepth 20000 in
theorem ggX10_reaches_X10_refused : GoodIn wsX10_reaches wsX10_refused := goodIn_r _ [14, 15, 16, 17, 5, 18, 1, 19, 20, 21, 22, 23, 24, 25, 26, 27, 28, 29, 30, 31, 32, 58, 59, 60, 61, 62, 63, 64, 65, 66, 67, 68, 69, 70, 71, 72, 73, 74, 75, 76, 77] (by decide +kernel) (by decide +kernel)
set_option maxRecDepth 20000 in
theorem gX10_reaches_X10_refused : GoodIn wsX10_reaches (wsV RX10 85 RX10 yX10_refused wsX10_refused) := goodIn_app (goodIn_of _ (by decide +kernel)) ggX10_reaches_X10_refused
set_option maxRecDepth 20000 in
theorem ggX10_reaches_X10_moves : GoodIn wsX10_reaches wsX10_moves := goodIn_r _ [45, 19, 20, 5, 21, 15, 16, 17, 18, 1, 46, 47, 48, 49, 58, 59, 60, 61, 62, 63, 64, 65, 66, 67, 68, 69, 70, 71, 72, 73, 74, 75, 76, 77] (by decide +kernel) (by decide +kernel)
set_option maxRecDepth 20000 in
theorem gX10_reaches_X10_moves : GoodIn wsX10_reaches (wsV RX10 91 RX10 yX10_moves wsX10_moves) := goodIn_app (goodIn_of _ (by decide +kernel)) ggX10_reaches_X10_moves
set_option maxRecDepth 20000 in
theorem ggX10_reaches_X10_takesUp : GoodIn wsX10_reaches wsX10_takesUp := goodIn_r _ [57, 1, 41, 58, 59, 60, 61, 62, 63, 64, 65, 66, 67, 68, 69, 70, 71, 72, 73, 74, 75, 76, 77] (by decide +kernel) (by decide +kernel)
set_option maxRecDepth 20000 in
theorem gX10_reaches_X10_takesUp : GoodIn wsX10_reaches (wsV RX10 97 RX10 yX10_takesUp wsX10_takesUp) := goodIn_app (goodIn_of _ (by decide +kernel)) ggX10_reaches_X10_takesUp
theorem dX10_reaches_0 : decode cX10_reaches 0 = .ok (.aload_n 0, 1) := by decide +kernel
theorem dX10_reaches_1 : decode cX10_reaches 1 = .ok (.getfield 7, 3) := by decide +kernel
theorem dX10_reaches_4 : decode cX10_reaches 4 = .ok (.bipush 36, 2) := by decide +kernel
theorem dX10_reaches_6 : decode cX10_reaches 6 = .ok (.iaload, 1) := by decide +kernel
theorem dX10_reaches_7 : decode cX10_reaches 7 = .ok (.istore_n 1, 1) := by decide +kernel
theorem dX10_reaches_8 : decode cX10_reaches 8 = .ok (.aload_n 0, 1) := by decide +kernel
theorem dX10_reaches_9 : decode cX10_reaches 9 = .ok (.invokevirtual 104, 3) := by decide +kernel
theorem dX10_reaches_12 : decode cX10_reaches 12 = .ok (.ifCond .eq 67, 3) := by decide +kernel
theorem dX10_reaches_15 : decode cX10_reaches 15 = .ok (.aload_n 0, 1) := by decide +kernel
theorem dX10_reaches_16 : decode cX10_reaches 16 = .ok (.getfield 7, 3) := by decide +kernel
theorem dX10_reaches_19 : decode cX10_reaches 19 = .ok (.bipush 39, 2) := by decide +kernel
theorem dX10_reaches_21 : decode cX10_reaches 21 = .ok (.iaload, 1) := by decide +kernel
theorem dX10_reaches_22 : decode cX10_reaches 22 = .ok (.istore_n 2, 1) := by decide +kernel
theorem dX10_reaches_23 : decode cX10_reaches 23 = .ok (.aload_n 0, 1) := by decide +kernel
theorem dX10_reaches_24 : decode cX10_reaches 24 = .ok (.getfield 7, 3) := by decide +kernel
theorem dX10_reaches_27 : decode cX10_reaches 27 = .ok (.bipush 40, 2) := by decide +kernel
theorem dX10_reaches_29 : decode cX10_reaches 29 = .ok (.iaload, 1) := by decide +kernel
theorem dX10_reaches_30 : decode cX10_reaches 30 = .ok (.istore_n 3, 1) := by decide +kernel
theorem dX10_reaches_31 : decode cX10_reaches 31 = .ok (.aload_n 0, 1) := by decide +kernel
theorem dX10_reaches_32 : decode cX10_reaches 32 = .ok (.iload_n 1, 1) := by decide +kernel
theorem dX10_reaches_33 : decode cX10_reaches 33 = .ok (.iload_n 2, 1) := by decide +kernel
theorem dX10_reaches_34 : decode cX10_reaches 34 = .ok (.iload_n 3, 1) := by decide +kernel
theorem dX10_reaches_35 : decode cX10_reaches 35 = .ok (.invokevirtual 108, 3) := by decide +kernel
theorem dX10_reaches_38 : decode cX10_reaches 38 = .ok (.ifCond .ne 13, 3) := by decide +kernel
theorem dX10_reaches_41 : decode cX10_reaches 41 = .ok (.aload_n 0, 1) := by decide +kernel
theorem dX10_reaches_42 : decode cX10_reaches 42 = .ok (.iload_n 1, 1) := by decide +kernel
theorem dX10_reaches_43 : decode cX10_reaches 43 = .ok (.iload_n 3, 1) := by decide +kernel
theorem dX10_reaches_44 : decode cX10_reaches 44 = .ok (.iload_n 2, 1) := by decide +kernel
theorem dX10_reaches_45 : decode cX10_reaches 45 = .ok (.invokevirtual 108, 3) := by decide +kernel
theorem dX10_reaches_48 : decode cX10_reaches 48 = .ok (.ifCond .eq 7, 3) := by decide +kernel
theorem dX10_reaches_51 : decode cX10_reaches 51 = .ok (.iconst 2, 1) := by decide +kernel
theorem dX10_reaches_52 : decode cX10_reaches 52 = .ok (.goto 26, 3) := by decide +kernel
theorem dX10_reaches_55 : decode cX10_reaches 55 = .ok (.aload_n 0, 1) := by decide +kernel
theorem dX10_reaches_56 : decode cX10_reaches 56 = .ok (.iload_n 1, 1) := by decide +kernel
theorem dX10_reaches_57 : decode cX10_reaches 57 = .ok (.iload_n 2, 1) := by decide +kernel
theorem dX10_reaches_58 : decode cX10_reaches 58 = .ok (.invokevirtual 94, 3) := by decide +kernel
theorem dX10_reaches_61 : decode cX10_reaches 61 = .ok (.ifCond .ne 12, 3) := by decide +kernel
theorem dX10_reaches_64 : decode cX10_reaches 64 = .ok (.aload_n 0, 1) := by decide +kernel
theorem dX10_reaches_65 : decode cX10_reaches 65 = .ok (.iload_n 1, 1) := by decide +kernel
theorem dX10_reaches_66 : decode cX10_reaches 66 = .ok (.iload_n 3, 1) := by decide +kernel
theorem dX10_reaches_67 : decode cX10_reaches 67 = .ok (.invokevirtual 94, 3) := by decide +kernel
theorem dX10_reaches_70 : decode cX10_reaches 70 = .ok (.ifCond .eq 7, 3) := by decide +kernel
theorem dX10_reaches_73 : decode cX10_reaches 73 = .ok (.iconst 1, 1) := by decide +kernel
theorem dX10_reaches_74 : decode cX10_reaches 74 = .ok (.goto 4, 3) := by decide +kernel
theorem dX10_reaches_77 : decode cX10_reaches 77 = .ok (.iconst 0, 1) := by decide +kernel
theorem dX10_reaches_78 : decode cX10_reaches 78 = .ok (.ireturn, 1) := by decide +kernel
theorem dX10_reaches_79 : decode cX10_reaches 79 = .ok (.aload_n 0, 1) := by decide +kernel
theorem dX10_reaches_80 : decode cX10_reaches 80 = .ok (.iconst 0, 1) := by decide +kernel
theorem dX10_reaches_81 : decode cX10_reaches 81 = .ok (.invokevirtual 88, 3) := by decide +kernel
theorem dX10_reaches_84 : decode cX10_reaches 84 = .ok (.iconst 0, 1) := by decide +kernel
theorem dX10_reaches_85 : decode cX10_reaches 85 = .ok (.istore_n 2, 1) := by decide +kernel
theorem dX10_reaches_86 : decode cX10_reaches 86 = .ok (.iconst (-1), 1) := by decide +kernel
theorem dX10_reaches_87 : decode cX10_reaches 87 = .ok (.istore_n 3, 1) := by decide +kernel
theorem dX10_reaches_88 : decode cX10_reaches 88 = .ok (.iload_n 2, 1) := by decide +kernel
theorem dX10_reaches_89 : decode cX10_reaches 89 = .ok (.aload_n 0, 1) := by decide +kernel
theorem dX10_reaches_90 : decode cX10_reaches 90 = .ok (.getfield 7, 3) := by decide +kernel
theorem dX10_reaches_93 : decode cX10_reaches 93 = .ok (.bipush 38, 2) := by decide +kernel
theorem dX10_reaches_95 : decode cX10_reaches 95 = .ok (.iaload, 1) := by decide +kernel
theorem dX10_reaches_96 : decode cX10_reaches 96 = .ok (.if_icmp .ge 54, 3) := by decide +kernel
theorem dX10_reaches_99 : decode cX10_reaches 99 = .ok (.iload_n 3, 1) := by decide +kernel
theorem dX10_reaches_100 : decode cX10_reaches 100 = .ok (.bipush 16, 2) := by decide +kernel
theorem dX10_reaches_102 : decode cX10_reaches 102 = .ok (.if_icmp .ge 48, 3) := by decide +kernel
theorem dX10_reaches_105 : decode cX10_reaches 105 = .ok (.aload_n 0, 1) := by decide +kernel
theorem dX10_reaches_106 : decode cX10_reaches 106 = .ok (.iload_n 1, 1) := by decide +kernel
theorem dX10_reaches_107 : decode cX10_reaches 107 = .ok (.iload_n 3, 1) := by decide +kernel
theorem dX10_reaches_108 : decode cX10_reaches 108 = .ok (.aload_n 0, 1) := by decide +kernel
theorem dX10_reaches_109 : decode cX10_reaches 109 = .ok (.getfield 7, 3) := by decide +kernel
theorem dX10_reaches_112 : decode cX10_reaches 112 = .ok (.bipush 39, 2) := by decide +kernel
theorem dX10_reaches_114 : decode cX10_reaches 114 = .ok (.iaload, 1) := by decide +kernel
theorem dX10_reaches_115 : decode cX10_reaches 115 = .ok (.invokevirtual 85, 3) := by decide +kernel
theorem dX10_reaches_118 : decode cX10_reaches 118 = .ok (.ifCond .ne 26, 3) := by decide +kernel
theorem dX10_reaches_121 : decode cX10_reaches 121 = .ok (.aload_n 0, 1) := by decide +kernel
theorem dX10_reaches_122 : decode cX10_reaches 122 = .ok (.iload_n 1, 1) := by decide +kernel
theorem dX10_reaches_123 : decode cX10_reaches 123 = .ok (.iload_n 3, 1) := by decide +kernel
theorem dX10_reaches_124 : decode cX10_reaches 124 = .ok (.aload_n 0, 1) := by decide +kernel
theorem dX10_reaches_125 : decode cX10_reaches 125 = .ok (.getfield 7, 3) := by decide +kernel
theorem dX10_reaches_128 : decode cX10_reaches 128 = .ok (.bipush 39, 2) := by decide +kernel
theorem dX10_reaches_130 : decode cX10_reaches 130 = .ok (.iaload, 1) := by decide +kernel
theorem dX10_reaches_131 : decode cX10_reaches 131 = .ok (.invokevirtual 91, 3) := by decide +kernel
theorem dX10_reaches_134 : decode cX10_reaches 134 = .ok (.istore 4, 2) := by decide +kernel
theorem dX10_reaches_136 : decode cX10_reaches 136 = .ok (.iinc 2 1, 3) := by decide +kernel
theorem dX10_reaches_139 : decode cX10_reaches 139 = .ok (.iconst (-1), 1) := by decide +kernel
theorem dX10_reaches_140 : decode cX10_reaches 140 = .ok (.istore_n 3, 1) := by decide +kernel
theorem dX10_reaches_141 : decode cX10_reaches 141 = .ok (.goto (-53), 3) := by decide +kernel
theorem dX10_reaches_144 : decode cX10_reaches 144 = .ok (.iinc 3 1, 3) := by decide +kernel
theorem dX10_reaches_147 : decode cX10_reaches 147 = .ok (.goto (-59), 3) := by decide +kernel
theorem dX10_reaches_150 : decode cX10_reaches 150 = .ok (.aload_n 0, 1) := by decide +kernel
theorem dX10_reaches_151 : decode cX10_reaches 151 = .ok (.iconst 0, 1) := by decide +kernel
theorem dX10_reaches_152 : decode cX10_reaches 152 = .ok (.invokevirtual 97, 3) := by decide +kernel
theorem dX10_reaches_155 : decode cX10_reaches 155 = .ok (.iload_n 2, 1) := by decide +kernel
theorem dX10_reaches_156 : decode cX10_reaches 156 = .ok (.ireturn, 1) := by decide +kernel
set_option maxRecDepth 20000 in
theorem ggX10_isBarred_X10_areUnlike : GoodIn wsX10_isBarred wsX10_areUnlike := goodIn_r _ [6, 1, 54, 55, 56, 57, 58, 59, 60, 61, 62, 63, 64, 65, 66, 67, 68, 69, 70, 71, 72, 73] (by decide +kernel) (by decide +kernel)
set_option maxRecDepth 20000 in
theorem gX10_isBarred_X10_areUnlike : GoodIn wsX10_isBarred (wsV RX10 104 RX10 yX10_areUnlike wsX10_areUnlike) := goodIn_app (goodIn_of _ (by decide +kernel)) ggX10_isBarred_X10_areUnlike
set_option maxRecDepth 20000 in
theorem ggX10_isBarred_X10_isSecond : GoodIn wsX10_isBarred wsX10_isSecond := goodIn_r _ [10, 11, 12, 13, 5, 14, 15, 1, 16, 17, 18, 19, 20, 21, 22, 23, 24, 25, 26, 27, 28, 29, 30, 31, 32, 33, 34, 35, 36, 37, 38, 39, 40, 41, 42, 43, 44, 45, 46, 47, 48, 49, 50, 51, 52, 53, 54, 55, 56, 57, 58, 59, 60, 61, 62, 63, 64, 65, 66, 67, 68, 69, 70, 71, 72, 73] (by decide +kernel) (by decide +kernel)
set_option maxRecDepth 20000 in
theorem gX10_isBarred_X10_isSecond : GoodIn wsX10_isBarred (wsV RX10 100 RX10 yX10_isSecond wsX10_isSecond) := goodIn_app (goodIn_of _ (by decide +kernel)) ggX10_isBarred_X10_isSecond
set_option maxRecDepth 20000 in
theorem ggX10_isBarred_X10_isAny : GoodIn wsX10_isBarred wsX10_isAny := goodIn_r _ [34, 35, 36, 37, 5, 38, 23, 24, 25, 26, 1, 20, 21, 22, 39, 40, 41, 42, 43, 44, 45, 46, 47, 48, 49, 54, 55, 56, 57, 58, 59, 60, 61, 62, 63, 64, 65, 66, 67, 68, 69, 70, 71, 72, 73] (by decide +kernel) (by decide +kernel)
set_option maxRecDepth 20000 in
theorem gX10_isBarred_X10_isAny : GoodIn wsX10_isBarred (wsV RX10 94 RX10 yX10_isAny wsX10_isAny) := goodIn_app (goodIn_of _ (by decide +kernel)) ggX10_isBarred_X10_isAny
theorem dX10_isBarred_0 : decode cX10_isBarred 0 = .ok (.aload_n 0, 1) := by decide +kernel
theorem dX10_isBarred_1 : decode cX10_isBarred 1 = .ok (.invokevirtual 104, 3) := by decide +kernel
theorem dX10_isBarred_4 : decode cX10_isBarred 4 = .ok (.ifCond .ne 5, 3) := by decide +kernel
theorem dX10_isBarred_7 : decode cX10_isBarred 7 = .ok (.iconst 0, 1) := by decide +kernel
theorem dX10_isBarred_8 : decode cX10_isBarred 8 = .ok (.ireturn, 1) := by decide +kernel
theorem dX10_isBarred_9 : decode cX10_isBarred 9 = .ok (.aload_n 0, 1) := by decide +kernel
theorem dX10_isBarred_10 : decode cX10_isBarred 10 = .ok (.getfield 7, 3) := by decide +kernel
theorem dX10_isBarred_13 : decode cX10_isBarred 13 = .ok (.bipush 39, 2) := by decide +kernel
theorem dX10_isBarred_15 : decode cX10_isBarred 15 = .ok (.iaload, 1) := by decide +kernel
theorem dX10_isBarred_16 : decode cX10_isBarred 16 = .ok (.aload_n 0, 1) := by decide +kernel
theorem dX10_isBarred_17 : decode cX10_isBarred 17 = .ok (.getfield 7, 3) := by decide +kernel
theorem dX10_isBarred_20 : decode cX10_isBarred 20 = .ok (.bipush 40, 2) := by decide +kernel
theorem dX10_isBarred_22 : decode cX10_isBarred 22 = .ok (.iaload, 1) := by decide +kernel
theorem dX10_isBarred_23 : decode cX10_isBarred 23 = .ok (.iadd, 1) := by decide +kernel
theorem dX10_isBarred_24 : decode cX10_isBarred 24 = .ok (.iload_n 2, 1) := by decide +kernel
theorem dX10_isBarred_25 : decode cX10_isBarred 25 = .ok (.isub, 1) := by decide +kernel
theorem dX10_isBarred_26 : decode cX10_isBarred 26 = .ok (.istore 4, 2) := by decide +kernel
theorem dX10_isBarred_28 : decode cX10_isBarred 28 = .ok (.iload_n 3, 1) := by decide +kernel
theorem dX10_isBarred_29 : decode cX10_isBarred 29 = .ok (.iconst 2, 1) := by decide +kernel
theorem dX10_isBarred_30 : decode cX10_isBarred 30 = .ok (.if_icmp .ne 29, 3) := by decide +kernel
theorem dX10_isBarred_33 : decode cX10_isBarred 33 = .ok (.aload_n 0, 1) := by decide +kernel
theorem dX10_isBarred_34 : decode cX10_isBarred 34 = .ok (.aload_n 0, 1) := by decide +kernel
theorem dX10_isBarred_35 : decode cX10_isBarred 35 = .ok (.getfield 7, 3) := by decide +kernel
theorem dX10_isBarred_38 : decode cX10_isBarred 38 = .ok (.bipush 36, 2) := by decide +kernel
theorem dX10_isBarred_40 : decode cX10_isBarred 40 = .ok (.iaload, 1) := by decide +kernel
theorem dX10_isBarred_41 : decode cX10_isBarred 41 = .ok (.iload_n 1, 1) := by decide +kernel
theorem dX10_isBarred_42 : decode cX10_isBarred 42 = .ok (.iload_n 2, 1) := by decide +kernel
theorem dX10_isBarred_43 : decode cX10_isBarred 43 = .ok (.iload 4, 2) := by decide +kernel
theorem dX10_isBarred_45 : decode cX10_isBarred 45 = .ok (.invokevirtual 100, 3) := by decide +kernel
theorem dX10_isBarred_48 : decode cX10_isBarred 48 = .ok (.ifCond .ne 7, 3) := by decide +kernel
theorem dX10_isBarred_51 : decode cX10_isBarred 51 = .ok (.iconst 1, 1) := by decide +kernel
theorem dX10_isBarred_52 : decode cX10_isBarred 52 = .ok (.goto 34, 3) := by decide +kernel
theorem dX10_isBarred_55 : decode cX10_isBarred 55 = .ok (.iconst 0, 1) := by decide +kernel
theorem dX10_isBarred_56 : decode cX10_isBarred 56 = .ok (.goto 30, 3) := by decide +kernel
theorem dX10_isBarred_59 : decode cX10_isBarred 59 = .ok (.iload_n 2, 1) := by decide +kernel
theorem dX10_isBarred_60 : decode cX10_isBarred 60 = .ok (.iload 4, 2) := by decide +kernel
theorem dX10_isBarred_62 : decode cX10_isBarred 62 = .ok (.if_icmp .ge 23, 3) := by decide +kernel
theorem dX10_isBarred_65 : decode cX10_isBarred 65 = .ok (.aload_n 0, 1) := by decide +kernel
theorem dX10_isBarred_66 : decode cX10_isBarred 66 = .ok (.aload_n 0, 1) := by decide +kernel
theorem dX10_isBarred_67 : decode cX10_isBarred 67 = .ok (.getfield 7, 3) := by decide +kernel
theorem dX10_isBarred_70 : decode cX10_isBarred 70 = .ok (.bipush 36, 2) := by decide +kernel
theorem dX10_isBarred_72 : decode cX10_isBarred 72 = .ok (.iaload, 1) := by decide +kernel
theorem dX10_isBarred_73 : decode cX10_isBarred 73 = .ok (.iload 4, 2) := by decide +kernel
theorem dX10_isBarred_75 : decode cX10_isBarred 75 = .ok (.invokevirtual 94, 3) := by decide +kernel
theorem dX10_isBarred_78 : decode cX10_isBarred 78 = .ok (.ifCond .eq 7, 3) := by decide +kernel
theorem dX10_isBarred_81 : decode cX10_isBarred 81 = .ok (.iconst 1, 1) := by decide +kernel
theorem dX10_isBarred_82 : decode cX10_isBarred 82 = .ok (.goto 4, 3) := by decide +kernel
theorem dX10_isBarred_85 : decode cX10_isBarred 85 = .ok (.iconst 0, 1) := by decide +kernel
theorem dX10_isBarred_86 : decode cX10_isBarred 86 = .ok (.ireturn, 1) := by decide +kernel
theorem dX10_isLeft_0 : decode cX10_isLeft 0 = .ok (.iconst 0, 1) := by decide +kernel
theorem dX10_isLeft_1 : decode cX10_isLeft 1 = .ok (.istore_n 2, 1) := by decide +kernel
theorem dX10_isLeft_2 : decode cX10_isLeft 2 = .ok (.iconst 0, 1) := by decide +kernel
theorem dX10_isLeft_3 : decode cX10_isLeft 3 = .ok (.istore_n 3, 1) := by decide +kernel
theorem dX10_isLeft_4 : decode cX10_isLeft 4 = .ok (.iload_n 3, 1) := by decide +kernel
theorem dX10_isLeft_5 : decode cX10_isLeft 5 = .ok (.aload_n 0, 1) := by decide +kernel
theorem dX10_isLeft_6 : decode cX10_isLeft 6 = .ok (.getfield 7, 3) := by decide +kernel
theorem dX10_isLeft_9 : decode cX10_isLeft 9 = .ok (.bipush 38, 2) := by decide +kernel
theorem dX10_isLeft_11 : decode cX10_isLeft 11 = .ok (.iaload, 1) := by decide +kernel
theorem dX10_isLeft_12 : decode cX10_isLeft 12 = .ok (.if_icmp .ge 32, 3) := by decide +kernel
theorem dX10_isLeft_15 : decode cX10_isLeft 15 = .ok (.iload_n 2, 1) := by decide +kernel
theorem dX10_isLeft_16 : decode cX10_isLeft 16 = .ok (.ifCond .ne 16, 3) := by decide +kernel
theorem dX10_isLeft_19 : decode cX10_isLeft 19 = .ok (.aload_n 0, 1) := by decide +kernel
theorem dX10_isLeft_20 : decode cX10_isLeft 20 = .ok (.getfield 7, 3) := by decide +kernel
theorem dX10_isLeft_23 : decode cX10_isLeft 23 = .ok (.bipush 39, 2) := by decide +kernel
theorem dX10_isLeft_25 : decode cX10_isLeft 25 = .ok (.iload_n 3, 1) := by decide +kernel
theorem dX10_isLeft_26 : decode cX10_isLeft 26 = .ok (.iadd, 1) := by decide +kernel
theorem dX10_isLeft_27 : decode cX10_isLeft 27 = .ok (.iaload, 1) := by decide +kernel
theorem dX10_isLeft_28 : decode cX10_isLeft 28 = .ok (.iload_n 1, 1) := by decide +kernel
theorem dX10_isLeft_29 : decode cX10_isLeft 29 = .ok (.if_icmp .ne 7, 3) := by decide +kernel
theorem dX10_isLeft_32 : decode cX10_isLeft 32 = .ok (.iconst 1, 1) := by decide +kernel
theorem dX10_isLeft_33 : decode cX10_isLeft 33 = .ok (.goto 4, 3) := by decide +kernel
theorem dX10_isLeft_36 : decode cX10_isLeft 36 = .ok (.iconst 0, 1) := by decide +kernel
theorem dX10_isLeft_37 : decode cX10_isLeft 37 = .ok (.istore_n 2, 1) := by decide +kernel
theorem dX10_isLeft_38 : decode cX10_isLeft 38 = .ok (.iinc 3 1, 3) := by decide +kernel
theorem dX10_isLeft_41 : decode cX10_isLeft 41 = .ok (.goto (-37), 3) := by decide +kernel
theorem dX10_isLeft_44 : decode cX10_isLeft 44 = .ok (.iload_n 2, 1) := by decide +kernel
theorem dX10_isLeft_45 : decode cX10_isLeft 45 = .ok (.ireturn, 1) := by decide +kernel
set_option maxRecDepth 20000 in
theorem ggX10_why_X10_isLeft : GoodIn wsX10_why wsX10_isLeft := goodIn_r _ [6, 1, 70, 71, 72, 73, 74, 75, 76, 77, 78, 79, 80, 81, 82, 83, 84, 85, 86, 87, 88, 89] (by decide +kernel) (by decide +kernel)
set_option maxRecDepth 20000 in
theorem gX10_why_X10_isLeft : GoodIn wsX10_why (wsV RX10 111 RX10 yX10_isLeft wsX10_isLeft) := goodIn_app (goodIn_of _ (by decide +kernel)) ggX10_why_X10_isLeft
set_option maxRecDepth 20000 in
theorem ggX10_why_X10_refused : GoodIn wsX10_why wsX10_refused := goodIn_r _ [10, 11, 12, 13, 5, 14, 1, 15, 16, 17, 18, 19, 20, 21, 22, 23, 24, 25, 26, 27, 28, 70, 71, 72, 73, 74, 75, 76, 77, 78, 79, 80, 81, 82, 83, 84, 85, 86, 87, 88, 89] (by decide +kernel) (by decide +kernel)
set_option maxRecDepth 20000 in
theorem gX10_why_X10_refused : GoodIn wsX10_why (wsV RX10 85 RX10 yX10_refused wsX10_refused) := goodIn_app (goodIn_of _ (by decide +kernel)) ggX10_why_X10_refused
set_option maxRecDepth 20000 in
theorem ggX10_why_X10_reaches : GoodIn wsX10_why wsX10_reaches := goodIn_r _ [32, 1, 33, 34, 35, 5, 36, 37, 38, 39, 40, 7, 8, 9, 10, 11, 12, 13, 14, 15, 16, 17, 18, 19, 20, 21, 22, 23, 24, 25, 26, 27, 28, 41, 42, 43, 44, 45, 46, 47, 48, 49, 50, 51, 52, 53, 54, 55, 56, 57, 58, 59, 60, 61, 62, 63, 64, 65, 70, 71, 72, 73, 74, 75, 76, 77, 78, 79, 80, 81, 82, 83, 84, 85, 86, 87, 88, 89] (by decide +kernel) (by decide +kernel)
set_option maxRecDepth 20000 in
theorem gX10_why_X10_reaches : GoodIn wsX10_why (wsV RX10 115 RX10 yX10_reaches wsX10_reaches) := goodIn_app (goodIn_of _ (by decide +kernel)) ggX10_why_X10_reaches
set_option maxRecDepth 20000 in
theorem ggX10_why_X10_isBarred : GoodIn wsX10_why wsX10_isBarred := goodIn_r _ [69, 1, 33, 34, 35, 5, 36, 41, 42, 43, 44, 45, 46, 47, 48, 49, 50, 51, 52, 53, 15, 16, 17, 11, 12, 13, 14, 54, 55, 56, 57, 58, 59, 60, 61, 7, 8, 9, 10, 18, 19, 20, 21, 22, 23, 24, 25, 26, 27, 28, 62, 63, 64, 65, 70, 71, 72, 73, 74, 75, 76, 77, 78, 79, 80, 81, 82, 83, 84, 85, 86, 87, 88, 89] (by decide +kernel) (by decide +kernel)
set_option maxRecDepth 20000 in
theorem gX10_why_X10_isBarred : GoodIn wsX10_why (wsV RX10 119 RX10 yX10_isBarred wsX10_isBarred) := goodIn_app (goodIn_of _ (by decide +kernel)) ggX10_why_X10_isBarred
theorem dX10_why_0 : decode cX10_why 0 = .ok (.aload_n 0, 1) := by decide +kernel
theorem dX10_why_1 : decode cX10_why 1 = .ok (.iload_n 2, 1) := by decide +kernel
theorem dX10_why_2 : decode cX10_why 2 = .ok (.invokevirtual 111, 3) := by decide +kernel
theorem dX10_why_5 : decode cX10_why 5 = .ok (.ifCond .ne 5, 3) := by decide +kernel
theorem dX10_why_8 : decode cX10_why 8 = .ok (.iconst 1, 1) := by decide +kernel
theorem dX10_why_9 : decode cX10_why 9 = .ok (.ireturn, 1) := by decide +kernel
theorem dX10_why_10 : decode cX10_why 10 = .ok (.aload_n 0, 1) := by decide +kernel
theorem dX10_why_11 : decode cX10_why 11 = .ok (.aload_n 0, 1) := by decide +kernel
theorem dX10_why_12 : decode cX10_why 12 = .ok (.getfield 7, 3) := by decide +kernel
theorem dX10_why_15 : decode cX10_why 15 = .ok (.bipush 36, 2) := by decide +kernel
theorem dX10_why_17 : decode cX10_why 17 = .ok (.iaload, 1) := by decide +kernel
theorem dX10_why_18 : decode cX10_why 18 = .ok (.iload_n 1, 1) := by decide +kernel
theorem dX10_why_19 : decode cX10_why 19 = .ok (.iload_n 2, 1) := by decide +kernel
theorem dX10_why_20 : decode cX10_why 20 = .ok (.invokevirtual 85, 3) := by decide +kernel
theorem dX10_why_23 : decode cX10_why 23 = .ok (.istore_n 3, 1) := by decide +kernel
theorem dX10_why_24 : decode cX10_why 24 = .ok (.iload_n 3, 1) := by decide +kernel
theorem dX10_why_25 : decode cX10_why 25 = .ok (.ifCond .le 7, 3) := by decide +kernel
theorem dX10_why_28 : decode cX10_why 28 = .ok (.iload_n 3, 1) := by decide +kernel
theorem dX10_why_29 : decode cX10_why 29 = .ok (.goto 22, 3) := by decide +kernel
theorem dX10_why_32 : decode cX10_why 32 = .ok (.aload_n 0, 1) := by decide +kernel
theorem dX10_why_33 : decode cX10_why 33 = .ok (.iload_n 1, 1) := by decide +kernel
theorem dX10_why_34 : decode cX10_why 34 = .ok (.iload_n 2, 1) := by decide +kernel
theorem dX10_why_35 : decode cX10_why 35 = .ok (.aload_n 0, 1) := by decide +kernel
theorem dX10_why_36 : decode cX10_why 36 = .ok (.invokevirtual 115, 3) := by decide +kernel
theorem dX10_why_39 : decode cX10_why 39 = .ok (.invokevirtual 119, 3) := by decide +kernel
theorem dX10_why_42 : decode cX10_why 42 = .ok (.ifCond .eq 8, 3) := by decide +kernel
theorem dX10_why_45 : decode cX10_why 45 = .ok (.bipush 6, 2) := by decide +kernel
theorem dX10_why_47 : decode cX10_why 47 = .ok (.goto 4, 3) := by decide +kernel
theorem dX10_why_50 : decode cX10_why 50 = .ok (.iconst 0, 1) := by decide +kernel
theorem dX10_why_51 : decode cX10_why 51 = .ok (.ireturn, 1) := by decide +kernel
theorem dX10_uses_0 : decode cX10_uses 0 = .ok (.iconst 0, 1) := by decide +kernel
theorem dX10_uses_1 : decode cX10_uses 1 = .ok (.istore_n 2, 1) := by decide +kernel
theorem dX10_uses_2 : decode cX10_uses 2 = .ok (.aload_n 0, 1) := by decide +kernel
theorem dX10_uses_3 : decode cX10_uses 3 = .ok (.getfield 7, 3) := by decide +kernel
theorem dX10_uses_6 : decode cX10_uses 6 = .ok (.bipush 39, 2) := by decide +kernel
theorem dX10_uses_8 : decode cX10_uses 8 = .ok (.iload_n 2, 1) := by decide +kernel
theorem dX10_uses_9 : decode cX10_uses 9 = .ok (.iadd, 1) := by decide +kernel
theorem dX10_uses_10 : decode cX10_uses 10 = .ok (.iaload, 1) := by decide +kernel
theorem dX10_uses_11 : decode cX10_uses 11 = .ok (.iload_n 1, 1) := by decide +kernel
theorem dX10_uses_12 : decode cX10_uses 12 = .ok (.if_icmp .eq 9, 3) := by decide +kernel
theorem dX10_uses_15 : decode cX10_uses 15 = .ok (.iinc 2 1, 3) := by decide +kernel
theorem dX10_uses_18 : decode cX10_uses 18 = .ok (.goto (-16), 3) := by decide +kernel
theorem dX10_uses_21 : decode cX10_uses 21 = .ok (.aload_n 0, 1) := by decide +kernel
theorem dX10_uses_22 : decode cX10_uses 22 = .ok (.getfield 7, 3) := by decide +kernel
theorem dX10_uses_25 : decode cX10_uses 25 = .ok (.bipush 38, 2) := by decide +kernel
theorem dX10_uses_27 : decode cX10_uses 27 = .ok (.dup2, 1) := by decide +kernel
theorem dX10_uses_28 : decode cX10_uses 28 = .ok (.iaload, 1) := by decide +kernel
theorem dX10_uses_29 : decode cX10_uses 29 = .ok (.iconst 1, 1) := by decide +kernel
theorem dX10_uses_30 : decode cX10_uses 30 = .ok (.isub, 1) := by decide +kernel
theorem dX10_uses_31 : decode cX10_uses 31 = .ok (.iastore, 1) := by decide +kernel
theorem dX10_uses_32 : decode cX10_uses 32 = .ok (.iload_n 2, 1) := by decide +kernel
theorem dX10_uses_33 : decode cX10_uses 33 = .ok (.istore_n 3, 1) := by decide +kernel
theorem dX10_uses_34 : decode cX10_uses 34 = .ok (.iload_n 3, 1) := by decide +kernel
theorem dX10_uses_35 : decode cX10_uses 35 = .ok (.iconst 3, 1) := by decide +kernel
theorem dX10_uses_36 : decode cX10_uses 36 = .ok (.if_icmp .ge 29, 3) := by decide +kernel
theorem dX10_uses_39 : decode cX10_uses 39 = .ok (.aload_n 0, 1) := by decide +kernel
theorem dX10_uses_40 : decode cX10_uses 40 = .ok (.getfield 7, 3) := by decide +kernel
theorem dX10_uses_43 : decode cX10_uses 43 = .ok (.bipush 39, 2) := by decide +kernel
theorem dX10_uses_45 : decode cX10_uses 45 = .ok (.iload_n 3, 1) := by decide +kernel
theorem dX10_uses_46 : decode cX10_uses 46 = .ok (.iadd, 1) := by decide +kernel
theorem dX10_uses_47 : decode cX10_uses 47 = .ok (.aload_n 0, 1) := by decide +kernel
theorem dX10_uses_48 : decode cX10_uses 48 = .ok (.getfield 7, 3) := by decide +kernel
theorem dX10_uses_51 : decode cX10_uses 51 = .ok (.bipush 39, 2) := by decide +kernel
theorem dX10_uses_53 : decode cX10_uses 53 = .ok (.iload_n 3, 1) := by decide +kernel
theorem dX10_uses_54 : decode cX10_uses 54 = .ok (.iadd, 1) := by decide +kernel
theorem dX10_uses_55 : decode cX10_uses 55 = .ok (.iconst 1, 1) := by decide +kernel
theorem dX10_uses_56 : decode cX10_uses 56 = .ok (.iadd, 1) := by decide +kernel
theorem dX10_uses_57 : decode cX10_uses 57 = .ok (.iaload, 1) := by decide +kernel
theorem dX10_uses_58 : decode cX10_uses 58 = .ok (.iastore, 1) := by decide +kernel
theorem dX10_uses_59 : decode cX10_uses 59 = .ok (.iinc 3 1, 3) := by decide +kernel
theorem dX10_uses_62 : decode cX10_uses 62 = .ok (.goto (-28), 3) := by decide +kernel
theorem dX10_uses_65 : decode cX10_uses 65 = .ok (.aload_n 0, 1) := by decide +kernel
theorem dX10_uses_66 : decode cX10_uses 66 = .ok (.getfield 7, 3) := by decide +kernel
theorem dX10_uses_69 : decode cX10_uses 69 = .ok (.bipush 42, 2) := by decide +kernel
theorem dX10_uses_71 : decode cX10_uses 71 = .ok (.iconst 0, 1) := by decide +kernel
theorem dX10_uses_72 : decode cX10_uses 72 = .ok (.iastore, 1) := by decide +kernel
theorem dX10_uses_73 : decode cX10_uses 73 = .ok (.return_, 1) := by decide +kernel
theorem dX10_rolls_0 : decode cX10_rolls 0 = .ok (.aload_n 0, 1) := by decide +kernel
theorem dX10_rolls_1 : decode cX10_rolls 1 = .ok (.getfield 7, 3) := by decide +kernel
theorem dX10_rolls_4 : decode cX10_rolls 4 = .ok (.bipush 37, 2) := by decide +kernel
theorem dX10_rolls_6 : decode cX10_rolls 6 = .ok (.iconst 1, 1) := by decide +kernel
theorem dX10_rolls_7 : decode cX10_rolls 7 = .ok (.iastore, 1) := by decide +kernel
theorem dX10_rolls_8 : decode cX10_rolls 8 = .ok (.aload_n 0, 1) := by decide +kernel
theorem dX10_rolls_9 : decode cX10_rolls 9 = .ok (.getfield 7, 3) := by decide +kernel
theorem dX10_rolls_12 : decode cX10_rolls 12 = .ok (.bipush 38, 2) := by decide +kernel
theorem dX10_rolls_14 : decode cX10_rolls 14 = .ok (.iload_n 1, 1) := by decide +kernel
theorem dX10_rolls_15 : decode cX10_rolls 15 = .ok (.iload_n 2, 1) := by decide +kernel
theorem dX10_rolls_16 : decode cX10_rolls 16 = .ok (.if_icmp .ne 7, 3) := by decide +kernel
theorem dX10_rolls_19 : decode cX10_rolls 19 = .ok (.iconst 4, 1) := by decide +kernel
theorem dX10_rolls_20 : decode cX10_rolls 20 = .ok (.goto 4, 3) := by decide +kernel
theorem dX10_rolls_23 : decode cX10_rolls 23 = .ok (.iconst 2, 1) := by decide +kernel
theorem dX10_rolls_24 : decode cX10_rolls 24 = .ok (.iastore, 1) := by decide +kernel
theorem dX10_rolls_25 : decode cX10_rolls 25 = .ok (.iconst 0, 1) := by decide +kernel
theorem dX10_rolls_26 : decode cX10_rolls 26 = .ok (.istore_n 3, 1) := by decide +kernel
theorem dX10_rolls_27 : decode cX10_rolls 27 = .ok (.iload_n 3, 1) := by decide +kernel
theorem dX10_rolls_28 : decode cX10_rolls 28 = .ok (.aload_n 0, 1) := by decide +kernel
theorem dX10_rolls_29 : decode cX10_rolls 29 = .ok (.getfield 7, 3) := by decide +kernel
theorem dX10_rolls_32 : decode cX10_rolls 32 = .ok (.bipush 38, 2) := by decide +kernel
theorem dX10_rolls_34 : decode cX10_rolls 34 = .ok (.iaload, 1) := by decide +kernel
theorem dX10_rolls_35 : decode cX10_rolls 35 = .ok (.if_icmp .ge 29, 3) := by decide +kernel
theorem dX10_rolls_38 : decode cX10_rolls 38 = .ok (.aload_n 0, 1) := by decide +kernel
theorem dX10_rolls_39 : decode cX10_rolls 39 = .ok (.getfield 7, 3) := by decide +kernel
theorem dX10_rolls_42 : decode cX10_rolls 42 = .ok (.bipush 39, 2) := by decide +kernel
theorem dX10_rolls_44 : decode cX10_rolls 44 = .ok (.iload_n 3, 1) := by decide +kernel
theorem dX10_rolls_45 : decode cX10_rolls 45 = .ok (.iadd, 1) := by decide +kernel
theorem dX10_rolls_46 : decode cX10_rolls 46 = .ok (.iload_n 3, 1) := by decide +kernel
theorem dX10_rolls_47 : decode cX10_rolls 47 = .ok (.iconst 2, 1) := by decide +kernel
theorem dX10_rolls_48 : decode cX10_rolls 48 = .ok (.irem, 1) := by decide +kernel
theorem dX10_rolls_49 : decode cX10_rolls 49 = .ok (.ifCond .ne 7, 3) := by decide +kernel
theorem dX10_rolls_52 : decode cX10_rolls 52 = .ok (.iload_n 1, 1) := by decide +kernel
theorem dX10_rolls_53 : decode cX10_rolls 53 = .ok (.goto 4, 3) := by decide +kernel
theorem dX10_rolls_56 : decode cX10_rolls 56 = .ok (.iload_n 2, 1) := by decide +kernel
theorem dX10_rolls_57 : decode cX10_rolls 57 = .ok (.iastore, 1) := by decide +kernel
theorem dX10_rolls_58 : decode cX10_rolls 58 = .ok (.iinc 3 1, 3) := by decide +kernel
theorem dX10_rolls_61 : decode cX10_rolls 61 = .ok (.goto (-34), 3) := by decide +kernel
theorem dX10_rolls_64 : decode cX10_rolls 64 = .ok (.aload_n 0, 1) := by decide +kernel
theorem dX10_rolls_65 : decode cX10_rolls 65 = .ok (.getfield 7, 3) := by decide +kernel
theorem dX10_rolls_68 : decode cX10_rolls 68 = .ok (.bipush 38, 2) := by decide +kernel
theorem dX10_rolls_70 : decode cX10_rolls 70 = .ok (.iaload, 1) := by decide +kernel
theorem dX10_rolls_71 : decode cX10_rolls 71 = .ok (.ireturn, 1) := by decide +kernel
set_option maxRecDepth 20000 in
theorem ggX10_steps_X10_moves : GoodIn wsX10_steps wsX10_moves := goodIn_r _ [6, 7, 8, 5, 9, 10, 11, 12, 13, 1, 14, 15, 16, 17, 26, 27, 28, 29, 30, 31, 32, 33, 34, 35, 36, 37, 38, 39, 40, 41, 42, 43, 44, 45] (by decide +kernel) (by decide +kernel)
set_option maxRecDepth 20000 in
theorem gX10_steps_X10_moves : GoodIn wsX10_steps (wsV RX10 91 RX10 yX10_moves wsX10_moves) := goodIn_app (goodIn_of _ (by decide +kernel)) ggX10_steps_X10_moves
set_option maxRecDepth 20000 in
theorem ggX10_steps_X10_uses : GoodIn wsX10_steps wsX10_uses := goodIn_r _ [21, 1, 26, 27, 28, 29, 30, 31, 32, 33, 34, 35, 36, 37, 38, 39, 40, 41, 42, 43, 44, 45] (by decide +kernel) (by decide +kernel)
set_option maxRecDepth 20000 in
theorem gX10_steps_X10_uses : GoodIn wsX10_steps (wsV RX10 122 RX10 yX10_uses wsX10_uses) := goodIn_app (goodIn_of _ (by decide +kernel)) ggX10_steps_X10_uses
set_option maxRecDepth 20000 in
theorem ggX10_steps_X10_at : GoodIn wsX10_steps wsX10_at := goodIn_r _ [13, 1, 26, 27, 28, 29, 30, 31, 32, 33, 34, 35, 36, 37, 38, 39, 40, 41, 42, 43, 44, 45] (by decide +kernel) (by decide +kernel)
set_option maxRecDepth 20000 in
theorem gX10_steps_X10_at : GoodIn wsX10_steps (wsV RX10 66 RX10 yX10_at wsX10_at) := goodIn_app (goodIn_of _ (by decide +kernel)) ggX10_steps_X10_at
set_option maxRecDepth 20000 in
theorem ggX10_steps_X10_clearDice : GoodIn wsX10_steps wsX10_clearDice := goodIn_r _ [25, 1, 26, 27, 28, 29, 30, 31, 32, 33, 34, 35, 36, 37, 38, 39, 40, 41, 42, 43, 44, 45] (by decide +kernel) (by decide +kernel)
set_option maxRecDepth 20000 in
theorem gX10_steps_X10_clearDice : GoodIn wsX10_steps (wsV RX10 63 RX10 yX10_clearDice wsX10_clearDice) := goodIn_app (goodIn_of _ (by decide +kernel)) ggX10_steps_X10_clearDice
theorem dX10_steps_0 : decode cX10_steps 0 = .ok (.aload_n 0, 1) := by decide +kernel
theorem dX10_steps_1 : decode cX10_steps 1 = .ok (.getfield 7, 3) := by decide +kernel
theorem dX10_steps_4 : decode cX10_steps 4 = .ok (.bipush 36, 2) := by decide +kernel
theorem dX10_steps_6 : decode cX10_steps 6 = .ok (.iaload, 1) := by decide +kernel
theorem dX10_steps_7 : decode cX10_steps 7 = .ok (.istore_n 3, 1) := by decide +kernel
theorem dX10_steps_8 : decode cX10_steps 8 = .ok (.aload_n 0, 1) := by decide +kernel
theorem dX10_steps_9 : decode cX10_steps 9 = .ok (.iload_n 3, 1) := by decide +kernel
theorem dX10_steps_10 : decode cX10_steps 10 = .ok (.iload_n 1, 1) := by decide +kernel
theorem dX10_steps_11 : decode cX10_steps 11 = .ok (.iload_n 2, 1) := by decide +kernel
theorem dX10_steps_12 : decode cX10_steps 12 = .ok (.invokevirtual 91, 3) := by decide +kernel
theorem dX10_steps_15 : decode cX10_steps 15 = .ok (.istore 4, 2) := by decide +kernel
theorem dX10_steps_17 : decode cX10_steps 17 = .ok (.aload_n 0, 1) := by decide +kernel
theorem dX10_steps_18 : decode cX10_steps 18 = .ok (.getfield 7, 3) := by decide +kernel
theorem dX10_steps_21 : decode cX10_steps 21 = .ok (.bipush 48, 2) := by decide +kernel
theorem dX10_steps_23 : decode cX10_steps 23 = .ok (.iload_n 3, 1) := by decide +kernel
theorem dX10_steps_24 : decode cX10_steps 24 = .ok (.isub, 1) := by decide +kernel
theorem dX10_steps_25 : decode cX10_steps 25 = .ok (.dup2, 1) := by decide +kernel
theorem dX10_steps_26 : decode cX10_steps 26 = .ok (.iaload, 1) := by decide +kernel
theorem dX10_steps_27 : decode cX10_steps 27 = .ok (.iload 4, 2) := by decide +kernel
theorem dX10_steps_29 : decode cX10_steps 29 = .ok (.ifCond .eq 7, 3) := by decide +kernel
theorem dX10_steps_32 : decode cX10_steps 32 = .ok (.iconst 1, 1) := by decide +kernel
theorem dX10_steps_33 : decode cX10_steps 33 = .ok (.goto 4, 3) := by decide +kernel
theorem dX10_steps_36 : decode cX10_steps 36 = .ok (.iconst 0, 1) := by decide +kernel
theorem dX10_steps_37 : decode cX10_steps 37 = .ok (.iadd, 1) := by decide +kernel
theorem dX10_steps_38 : decode cX10_steps 38 = .ok (.iastore, 1) := by decide +kernel
theorem dX10_steps_39 : decode cX10_steps 39 = .ok (.aload_n 0, 1) := by decide +kernel
theorem dX10_steps_40 : decode cX10_steps 40 = .ok (.iload_n 2, 1) := by decide +kernel
theorem dX10_steps_41 : decode cX10_steps 41 = .ok (.invokevirtual 122, 3) := by decide +kernel
theorem dX10_steps_44 : decode cX10_steps 44 = .ok (.aload_n 0, 1) := by decide +kernel
theorem dX10_steps_45 : decode cX10_steps 45 = .ok (.iload_n 3, 1) := by decide +kernel
theorem dX10_steps_46 : decode cX10_steps 46 = .ok (.bipush 16, 2) := by decide +kernel
theorem dX10_steps_48 : decode cX10_steps 48 = .ok (.invokevirtual 66, 3) := by decide +kernel
theorem dX10_steps_51 : decode cX10_steps 51 = .ok (.bipush 6, 2) := by decide +kernel
theorem dX10_steps_53 : decode cX10_steps 53 = .ok (.if_icmp .ne 58, 3) := by decide +kernel
theorem dX10_steps_56 : decode cX10_steps 56 = .ok (.aload_n 0, 1) := by decide +kernel
theorem dX10_steps_57 : decode cX10_steps 57 = .ok (.getfield 7, 3) := by decide +kernel
theorem dX10_steps_60 : decode cX10_steps 60 = .ok (.bipush 37, 2) := by decide +kernel
theorem dX10_steps_62 : decode cX10_steps 62 = .ok (.iconst 3, 1) := by decide +kernel
theorem dX10_steps_63 : decode cX10_steps 63 = .ok (.iastore, 1) := by decide +kernel
theorem dX10_steps_64 : decode cX10_steps 64 = .ok (.aload_n 0, 1) := by decide +kernel
theorem dX10_steps_65 : decode cX10_steps 65 = .ok (.invokevirtual 63, 3) := by decide +kernel
theorem dX10_steps_68 : decode cX10_steps 68 = .ok (.aload_n 0, 1) := by decide +kernel
theorem dX10_steps_69 : decode cX10_steps 69 = .ok (.getfield 7, 3) := by decide +kernel
theorem dX10_steps_72 : decode cX10_steps 72 = .ok (.bipush 45, 2) := by decide +kernel
theorem dX10_steps_74 : decode cX10_steps 74 = .ok (.iload_n 3, 1) := by decide +kernel
theorem dX10_steps_75 : decode cX10_steps 75 = .ok (.iadd, 1) := by decide +kernel
theorem dX10_steps_76 : decode cX10_steps 76 = .ok (.dup2, 1) := by decide +kernel
theorem dX10_steps_77 : decode cX10_steps 77 = .ok (.iaload, 1) := by decide +kernel
theorem dX10_steps_78 : decode cX10_steps 78 = .ok (.aload_n 0, 1) := by decide +kernel
theorem dX10_steps_79 : decode cX10_steps 79 = .ok (.iconst 1, 1) := by decide +kernel
theorem dX10_steps_80 : decode cX10_steps 80 = .ok (.iload_n 3, 1) := by decide +kernel
theorem dX10_steps_81 : decode cX10_steps 81 = .ok (.isub, 1) := by decide +kernel
theorem dX10_steps_82 : decode cX10_steps 82 = .ok (.bipush 16, 2) := by decide +kernel
theorem dX10_steps_84 : decode cX10_steps 84 = .ok (.invokevirtual 66, 3) := by decide +kernel
theorem dX10_steps_87 : decode cX10_steps 87 = .ok (.ifCond .ne 15, 3) := by decide +kernel
theorem dX10_steps_90 : decode cX10_steps 90 = .ok (.iconst 2, 1) := by decide +kernel
theorem dX10_steps_91 : decode cX10_steps 91 = .ok (.aload_n 0, 1) := by decide +kernel
theorem dX10_steps_92 : decode cX10_steps 92 = .ok (.getfield 7, 3) := by decide +kernel
theorem dX10_steps_95 : decode cX10_steps 95 = .ok (.bipush 43, 2) := by decide +kernel
theorem dX10_steps_97 : decode cX10_steps 97 = .ok (.iaload, 1) := by decide +kernel
theorem dX10_steps_98 : decode cX10_steps 98 = .ok (.imul, 1) := by decide +kernel
theorem dX10_steps_99 : decode cX10_steps 99 = .ok (.goto 10, 3) := by decide +kernel
theorem dX10_steps_102 : decode cX10_steps 102 = .ok (.aload_n 0, 1) := by decide +kernel
theorem dX10_steps_103 : decode cX10_steps 103 = .ok (.getfield 7, 3) := by decide +kernel
theorem dX10_steps_106 : decode cX10_steps 106 = .ok (.bipush 43, 2) := by decide +kernel
theorem dX10_steps_108 : decode cX10_steps 108 = .ok (.iaload, 1) := by decide +kernel
theorem dX10_steps_109 : decode cX10_steps 109 = .ok (.iadd, 1) := by decide +kernel
theorem dX10_steps_110 : decode cX10_steps 110 = .ok (.iastore, 1) := by decide +kernel
theorem dX10_steps_111 : decode cX10_steps 111 = .ok (.iload 4, 2) := by decide +kernel
theorem dX10_steps_113 : decode cX10_steps 113 = .ok (.ireturn, 1) := by decide +kernel
set_option maxRecDepth 20000 in
theorem ggX10_canEnd_X10_reaches : GoodIn wsX10_canEnd wsX10_reaches := goodIn_r _ [6, 1, 7, 8, 9, 5, 10, 11, 12, 13, 14, 15, 16, 17, 18, 19, 20, 21, 22, 23, 24, 25, 26, 27, 28, 29, 30, 31, 32, 33, 34, 35, 36, 37, 38, 39, 40, 41, 42, 43, 44, 45, 46, 47, 48, 49, 50, 51, 52, 53, 54, 55, 56, 57, 58, 59, 60, 61, 62, 63, 64, 65, 66, 67, 68, 69, 70, 71, 72, 73, 74, 75, 76, 77, 78, 79, 80, 81] (by decide +kernel) (by decide +kernel)
set_option maxRecDepth 20000 in
theorem gX10_canEnd_X10_reaches : GoodIn wsX10_canEnd (wsV RX10 115 RX10 yX10_reaches wsX10_reaches) := goodIn_app (goodIn_of _ (by decide +kernel)) ggX10_canEnd_X10_reaches
theorem dX10_canEnd_0 : decode cX10_canEnd 0 = .ok (.aload_n 0, 1) := by decide +kernel
theorem dX10_canEnd_1 : decode cX10_canEnd 1 = .ok (.getfield 7, 3) := by decide +kernel
theorem dX10_canEnd_4 : decode cX10_canEnd 4 = .ok (.bipush 37, 2) := by decide +kernel
theorem dX10_canEnd_6 : decode cX10_canEnd 6 = .ok (.iaload, 1) := by decide +kernel
theorem dX10_canEnd_7 : decode cX10_canEnd 7 = .ok (.iconst 1, 1) := by decide +kernel
theorem dX10_canEnd_8 : decode cX10_canEnd 8 = .ok (.if_icmp .ne 14, 3) := by decide +kernel
theorem dX10_canEnd_11 : decode cX10_canEnd 11 = .ok (.aload_n 0, 1) := by decide +kernel
theorem dX10_canEnd_12 : decode cX10_canEnd 12 = .ok (.invokevirtual 115, 3) := by decide +kernel
theorem dX10_canEnd_15 : decode cX10_canEnd 15 = .ok (.ifCond .ne 7, 3) := by decide +kernel
theorem dX10_canEnd_18 : decode cX10_canEnd 18 = .ok (.iconst 1, 1) := by decide +kernel
theorem dX10_canEnd_19 : decode cX10_canEnd 19 = .ok (.goto 4, 3) := by decide +kernel
theorem dX10_canEnd_22 : decode cX10_canEnd 22 = .ok (.iconst 0, 1) := by decide +kernel
theorem dX10_canEnd_23 : decode cX10_canEnd 23 = .ok (.ireturn, 1) := by decide +kernel
set_option maxRecDepth 20000 in
theorem ggX10_ends_X10_clearDice : GoodIn wsX10_ends wsX10_clearDice := goodIn_r _ [6, 1, 7, 8, 9, 10, 11, 12, 13, 14, 15, 16, 17, 18, 19, 20, 21, 22, 23, 24, 25, 26] (by decide +kernel) (by decide +kernel)
set_option maxRecDepth 20000 in
theorem gX10_ends_X10_clearDice : GoodIn wsX10_ends (wsV RX10 63 RX10 yX10_clearDice wsX10_clearDice) := goodIn_app (goodIn_of _ (by decide +kernel)) ggX10_ends_X10_clearDice
theorem dX10_ends_0 : decode cX10_ends 0 = .ok (.aload_n 0, 1) := by decide +kernel
theorem dX10_ends_1 : decode cX10_ends 1 = .ok (.invokevirtual 63, 3) := by decide +kernel
theorem dX10_ends_4 : decode cX10_ends 4 = .ok (.aload_n 0, 1) := by decide +kernel
theorem dX10_ends_5 : decode cX10_ends 5 = .ok (.getfield 7, 3) := by decide +kernel
theorem dX10_ends_8 : decode cX10_ends 8 = .ok (.bipush 37, 2) := by decide +kernel
theorem dX10_ends_10 : decode cX10_ends 10 = .ok (.iconst 0, 1) := by decide +kernel
theorem dX10_ends_11 : decode cX10_ends 11 = .ok (.iastore, 1) := by decide +kernel
theorem dX10_ends_12 : decode cX10_ends 12 = .ok (.aload_n 0, 1) := by decide +kernel
theorem dX10_ends_13 : decode cX10_ends 13 = .ok (.getfield 7, 3) := by decide +kernel
theorem dX10_ends_16 : decode cX10_ends 16 = .ok (.bipush 36, 2) := by decide +kernel
theorem dX10_ends_18 : decode cX10_ends 18 = .ok (.iconst 1, 1) := by decide +kernel
theorem dX10_ends_19 : decode cX10_ends 19 = .ok (.aload_n 0, 1) := by decide +kernel
theorem dX10_ends_20 : decode cX10_ends 20 = .ok (.getfield 7, 3) := by decide +kernel
theorem dX10_ends_23 : decode cX10_ends 23 = .ok (.bipush 36, 2) := by decide +kernel
theorem dX10_ends_25 : decode cX10_ends 25 = .ok (.iaload, 1) := by decide +kernel
theorem dX10_ends_26 : decode cX10_ends 26 = .ok (.isub, 1) := by decide +kernel
theorem dX10_ends_27 : decode cX10_ends 27 = .ok (.iastore, 1) := by decide +kernel
theorem dX10_ends_28 : decode cX10_ends 28 = .ok (.aload_n 0, 1) := by decide +kernel
theorem dX10_ends_29 : decode cX10_ends 29 = .ok (.getfield 7, 3) := by decide +kernel
theorem dX10_ends_32 : decode cX10_ends 32 = .ok (.bipush 36, 2) := by decide +kernel
theorem dX10_ends_34 : decode cX10_ends 34 = .ok (.iaload, 1) := by decide +kernel
theorem dX10_ends_35 : decode cX10_ends 35 = .ok (.ireturn, 1) := by decide +kernel
theorem dX10_canOffer_0 : decode cX10_canOffer 0 = .ok (.aload_n 0, 1) := by decide +kernel
theorem dX10_canOffer_1 : decode cX10_canOffer 1 = .ok (.getfield 7, 3) := by decide +kernel
theorem dX10_canOffer_4 : decode cX10_canOffer 4 = .ok (.bipush 37, 2) := by decide +kernel
theorem dX10_canOffer_6 : decode cX10_canOffer 6 = .ok (.iaload, 1) := by decide +kernel
theorem dX10_canOffer_7 : decode cX10_canOffer 7 = .ok (.ifCond .ne 38, 3) := by decide +kernel
theorem dX10_canOffer_10 : decode cX10_canOffer 10 = .ok (.aload_n 0, 1) := by decide +kernel
theorem dX10_canOffer_11 : decode cX10_canOffer 11 = .ok (.getfield 7, 3) := by decide +kernel
theorem dX10_canOffer_14 : decode cX10_canOffer 14 = .ok (.bipush 44, 2) := by decide +kernel
theorem dX10_canOffer_16 : decode cX10_canOffer 16 = .ok (.iaload, 1) := by decide +kernel
theorem dX10_canOffer_17 : decode cX10_canOffer 17 = .ok (.iconst 1, 1) := by decide +kernel
theorem dX10_canOffer_18 : decode cX10_canOffer 18 = .ok (.aload_n 0, 1) := by decide +kernel
theorem dX10_canOffer_19 : decode cX10_canOffer 19 = .ok (.getfield 7, 3) := by decide +kernel
theorem dX10_canOffer_22 : decode cX10_canOffer 22 = .ok (.bipush 36, 2) := by decide +kernel
theorem dX10_canOffer_24 : decode cX10_canOffer 24 = .ok (.iaload, 1) := by decide +kernel
theorem dX10_canOffer_25 : decode cX10_canOffer 25 = .ok (.isub, 1) := by decide +kernel
theorem dX10_canOffer_26 : decode cX10_canOffer 26 = .ok (.if_icmp .eq 19, 3) := by decide +kernel
theorem dX10_canOffer_29 : decode cX10_canOffer 29 = .ok (.aload_n 0, 1) := by decide +kernel
theorem dX10_canOffer_30 : decode cX10_canOffer 30 = .ok (.getfield 7, 3) := by decide +kernel
theorem dX10_canOffer_33 : decode cX10_canOffer 33 = .ok (.bipush 43, 2) := by decide +kernel
theorem dX10_canOffer_35 : decode cX10_canOffer 35 = .ok (.iaload, 1) := by decide +kernel
theorem dX10_canOffer_36 : decode cX10_canOffer 36 = .ok (.bipush 32, 2) := by decide +kernel
theorem dX10_canOffer_38 : decode cX10_canOffer 38 = .ok (.if_icmp .gt 7, 3) := by decide +kernel
theorem dX10_canOffer_41 : decode cX10_canOffer 41 = .ok (.iconst 1, 1) := by decide +kernel
theorem dX10_canOffer_42 : decode cX10_canOffer 42 = .ok (.goto 4, 3) := by decide +kernel
theorem dX10_canOffer_45 : decode cX10_canOffer 45 = .ok (.iconst 0, 1) := by decide +kernel
theorem dX10_canOffer_46 : decode cX10_canOffer 46 = .ok (.ireturn, 1) := by decide +kernel
theorem dX10_offers_0 : decode cX10_offers 0 = .ok (.aload_n 0, 1) := by decide +kernel
theorem dX10_offers_1 : decode cX10_offers 1 = .ok (.getfield 7, 3) := by decide +kernel
theorem dX10_offers_4 : decode cX10_offers 4 = .ok (.bipush 37, 2) := by decide +kernel
theorem dX10_offers_6 : decode cX10_offers 6 = .ok (.iconst 2, 1) := by decide +kernel
theorem dX10_offers_7 : decode cX10_offers 7 = .ok (.iastore, 1) := by decide +kernel
theorem dX10_offers_8 : decode cX10_offers 8 = .ok (.iconst 2, 1) := by decide +kernel
theorem dX10_offers_9 : decode cX10_offers 9 = .ok (.aload_n 0, 1) := by decide +kernel
theorem dX10_offers_10 : decode cX10_offers 10 = .ok (.getfield 7, 3) := by decide +kernel
theorem dX10_offers_13 : decode cX10_offers 13 = .ok (.bipush 43, 2) := by decide +kernel
theorem dX10_offers_15 : decode cX10_offers 15 = .ok (.iaload, 1) := by decide +kernel
theorem dX10_offers_16 : decode cX10_offers 16 = .ok (.imul, 1) := by decide +kernel
theorem dX10_offers_17 : decode cX10_offers 17 = .ok (.ireturn, 1) := by decide +kernel
theorem dX10_doubles_0 : decode cX10_doubles 0 = .ok (.aload_n 0, 1) := by decide +kernel
theorem dX10_doubles_1 : decode cX10_doubles 1 = .ok (.getfield 7, 3) := by decide +kernel
theorem dX10_doubles_4 : decode cX10_doubles 4 = .ok (.bipush 37, 2) := by decide +kernel
theorem dX10_doubles_6 : decode cX10_doubles 6 = .ok (.iconst 0, 1) := by decide +kernel
theorem dX10_doubles_7 : decode cX10_doubles 7 = .ok (.iastore, 1) := by decide +kernel
theorem dX10_doubles_8 : decode cX10_doubles 8 = .ok (.aload_n 0, 1) := by decide +kernel
theorem dX10_doubles_9 : decode cX10_doubles 9 = .ok (.getfield 7, 3) := by decide +kernel
theorem dX10_doubles_12 : decode cX10_doubles 12 = .ok (.bipush 43, 2) := by decide +kernel
theorem dX10_doubles_14 : decode cX10_doubles 14 = .ok (.dup2, 1) := by decide +kernel
theorem dX10_doubles_15 : decode cX10_doubles 15 = .ok (.iaload, 1) := by decide +kernel
theorem dX10_doubles_16 : decode cX10_doubles 16 = .ok (.iconst 2, 1) := by decide +kernel
theorem dX10_doubles_17 : decode cX10_doubles 17 = .ok (.imul, 1) := by decide +kernel
theorem dX10_doubles_18 : decode cX10_doubles 18 = .ok (.iastore, 1) := by decide +kernel
theorem dX10_doubles_19 : decode cX10_doubles 19 = .ok (.aload_n 0, 1) := by decide +kernel
theorem dX10_doubles_20 : decode cX10_doubles 20 = .ok (.getfield 7, 3) := by decide +kernel
theorem dX10_doubles_23 : decode cX10_doubles 23 = .ok (.bipush 44, 2) := by decide +kernel
theorem dX10_doubles_25 : decode cX10_doubles 25 = .ok (.iconst 1, 1) := by decide +kernel
theorem dX10_doubles_26 : decode cX10_doubles 26 = .ok (.aload_n 0, 1) := by decide +kernel
theorem dX10_doubles_27 : decode cX10_doubles 27 = .ok (.getfield 7, 3) := by decide +kernel
theorem dX10_doubles_30 : decode cX10_doubles 30 = .ok (.bipush 36, 2) := by decide +kernel
theorem dX10_doubles_32 : decode cX10_doubles 32 = .ok (.iaload, 1) := by decide +kernel
theorem dX10_doubles_33 : decode cX10_doubles 33 = .ok (.isub, 1) := by decide +kernel
theorem dX10_doubles_34 : decode cX10_doubles 34 = .ok (.iastore, 1) := by decide +kernel
theorem dX10_doubles_35 : decode cX10_doubles 35 = .ok (.aload_n 0, 1) := by decide +kernel
theorem dX10_doubles_36 : decode cX10_doubles 36 = .ok (.getfield 7, 3) := by decide +kernel
theorem dX10_doubles_39 : decode cX10_doubles 39 = .ok (.bipush 43, 2) := by decide +kernel
theorem dX10_doubles_41 : decode cX10_doubles 41 = .ok (.iaload, 1) := by decide +kernel
theorem dX10_doubles_42 : decode cX10_doubles 42 = .ok (.ireturn, 1) := by decide +kernel
theorem dX10_drops_0 : decode cX10_drops 0 = .ok (.aload_n 0, 1) := by decide +kernel
theorem dX10_drops_1 : decode cX10_drops 1 = .ok (.getfield 7, 3) := by decide +kernel
theorem dX10_drops_4 : decode cX10_drops 4 = .ok (.bipush 37, 2) := by decide +kernel
theorem dX10_drops_6 : decode cX10_drops 6 = .ok (.iconst 3, 1) := by decide +kernel
theorem dX10_drops_7 : decode cX10_drops 7 = .ok (.iastore, 1) := by decide +kernel
theorem dX10_drops_8 : decode cX10_drops 8 = .ok (.aload_n 0, 1) := by decide +kernel
theorem dX10_drops_9 : decode cX10_drops 9 = .ok (.getfield 7, 3) := by decide +kernel
theorem dX10_drops_12 : decode cX10_drops 12 = .ok (.bipush 45, 2) := by decide +kernel
theorem dX10_drops_14 : decode cX10_drops 14 = .ok (.aload_n 0, 1) := by decide +kernel
theorem dX10_drops_15 : decode cX10_drops 15 = .ok (.getfield 7, 3) := by decide +kernel
theorem dX10_drops_18 : decode cX10_drops 18 = .ok (.bipush 36, 2) := by decide +kernel
theorem dX10_drops_20 : decode cX10_drops 20 = .ok (.iaload, 1) := by decide +kernel
theorem dX10_drops_21 : decode cX10_drops 21 = .ok (.iadd, 1) := by decide +kernel
theorem dX10_drops_22 : decode cX10_drops 22 = .ok (.dup2, 1) := by decide +kernel
theorem dX10_drops_23 : decode cX10_drops 23 = .ok (.iaload, 1) := by decide +kernel
theorem dX10_drops_24 : decode cX10_drops 24 = .ok (.aload_n 0, 1) := by decide +kernel
theorem dX10_drops_25 : decode cX10_drops 25 = .ok (.getfield 7, 3) := by decide +kernel
theorem dX10_drops_28 : decode cX10_drops 28 = .ok (.bipush 43, 2) := by decide +kernel
theorem dX10_drops_30 : decode cX10_drops 30 = .ok (.iaload, 1) := by decide +kernel
theorem dX10_drops_31 : decode cX10_drops 31 = .ok (.iadd, 1) := by decide +kernel
theorem dX10_drops_32 : decode cX10_drops 32 = .ok (.iastore, 1) := by decide +kernel
theorem dX10_drops_33 : decode cX10_drops 33 = .ok (.aload_n 0, 1) := by decide +kernel
theorem dX10_drops_34 : decode cX10_drops 34 = .ok (.getfield 7, 3) := by decide +kernel
theorem dX10_drops_37 : decode cX10_drops 37 = .ok (.bipush 45, 2) := by decide +kernel
theorem dX10_drops_39 : decode cX10_drops 39 = .ok (.aload_n 0, 1) := by decide +kernel
theorem dX10_drops_40 : decode cX10_drops 40 = .ok (.getfield 7, 3) := by decide +kernel
theorem dX10_drops_43 : decode cX10_drops 43 = .ok (.bipush 36, 2) := by decide +kernel
theorem dX10_drops_45 : decode cX10_drops 45 = .ok (.iaload, 1) := by decide +kernel
theorem dX10_drops_46 : decode cX10_drops 46 = .ok (.iadd, 1) := by decide +kernel
theorem dX10_drops_47 : decode cX10_drops 47 = .ok (.iaload, 1) := by decide +kernel
theorem dX10_drops_48 : decode cX10_drops 48 = .ok (.ireturn, 1) := by decide +kernel
set_option maxRecDepth 20000 in
theorem ggX10_anew_X10_begins : GoodIn wsX10_anew wsX10_begins := goodIn_r _ [6, 1, 7, 8, 9, 5, 10, 11, 12, 13, 14, 15, 16, 17, 18, 19, 20, 21, 22, 23, 24, 25, 26, 27, 28, 29, 30, 31, 32, 33, 34] (by decide +kernel) (by decide +kernel)
set_option maxRecDepth 20000 in
theorem gX10_anew_X10_begins : GoodIn wsX10_anew (wsV RX10 44 RX10 yX10_begins wsX10_begins) := goodIn_app (goodIn_of _ (by decide +kernel)) ggX10_anew_X10_begins
theorem dX10_anew_0 : decode cX10_anew 0 = .ok (.aload_n 0, 1) := by decide +kernel
theorem dX10_anew_1 : decode cX10_anew 1 = .ok (.iconst 1, 1) := by decide +kernel
theorem dX10_anew_2 : decode cX10_anew 2 = .ok (.aload_n 0, 1) := by decide +kernel
theorem dX10_anew_3 : decode cX10_anew 3 = .ok (.getfield 7, 3) := by decide +kernel
theorem dX10_anew_6 : decode cX10_anew 6 = .ok (.bipush 36, 2) := by decide +kernel
theorem dX10_anew_8 : decode cX10_anew 8 = .ok (.iaload, 1) := by decide +kernel
theorem dX10_anew_9 : decode cX10_anew 9 = .ok (.isub, 1) := by decide +kernel
theorem dX10_anew_10 : decode cX10_anew 10 = .ok (.invokevirtual 44, 3) := by decide +kernel
theorem dX10_anew_13 : decode cX10_anew 13 = .ok (.aload_n 0, 1) := by decide +kernel
theorem dX10_anew_14 : decode cX10_anew 14 = .ok (.getfield 7, 3) := by decide +kernel
theorem dX10_anew_17 : decode cX10_anew 17 = .ok (.bipush 36, 2) := by decide +kernel
theorem dX10_anew_19 : decode cX10_anew 19 = .ok (.iaload, 1) := by decide +kernel
theorem dX10_anew_20 : decode cX10_anew 20 = .ok (.ireturn, 1) := by decide +kernel
set_option maxRecDepth 20000 in
theorem ggX10_pip_X10_at : GoodIn wsX10_pip wsX10_at := goodIn_r _ [5, 6, 10, 11, 12, 13, 14, 15, 16, 17, 18, 19, 20, 21, 22, 23, 24, 25, 26, 27, 28, 29] (by decide +kernel) (by decide +kernel)
set_option maxRecDepth 20000 in
theorem gX10_pip_X10_at : GoodIn wsX10_pip (wsV RX10 66 RX10 yX10_at wsX10_at) := goodIn_app (goodIn_of _ (by decide +kernel)) ggX10_pip_X10_at
set_option maxRecDepth 20000 in
theorem ggX10_pip_X10_way : GoodIn wsX10_pip wsX10_way := goodIn_r _ [9] (by decide +kernel) (by decide +kernel)
set_option maxRecDepth 20000 in
theorem gX10_pip_X10_way : GoodIn wsX10_pip (va_wsS RX10 70 yX10_way wsX10_way) := goodIn_app (goodIn_of _ (by decide +kernel)) ggX10_pip_X10_way
theorem dX10_pip_0 : decode cX10_pip 0 = .ok (.iconst 0, 1) := by decide +kernel
theorem dX10_pip_1 : decode cX10_pip 1 = .ok (.istore_n 2, 1) := by decide +kernel
theorem dX10_pip_2 : decode cX10_pip 2 = .ok (.iconst (-1), 1) := by decide +kernel
theorem dX10_pip_3 : decode cX10_pip 3 = .ok (.istore_n 3, 1) := by decide +kernel
theorem dX10_pip_4 : decode cX10_pip 4 = .ok (.iload_n 3, 1) := by decide +kernel
theorem dX10_pip_5 : decode cX10_pip 5 = .ok (.bipush 16, 2) := by decide +kernel
theorem dX10_pip_7 : decode cX10_pip 7 = .ok (.if_icmp .ge 24, 3) := by decide +kernel
theorem dX10_pip_10 : decode cX10_pip 10 = .ok (.iload_n 2, 1) := by decide +kernel
theorem dX10_pip_11 : decode cX10_pip 11 = .ok (.aload_n 0, 1) := by decide +kernel
theorem dX10_pip_12 : decode cX10_pip 12 = .ok (.iload_n 1, 1) := by decide +kernel
theorem dX10_pip_13 : decode cX10_pip 13 = .ok (.iload_n 3, 1) := by decide +kernel
theorem dX10_pip_14 : decode cX10_pip 14 = .ok (.invokevirtual 66, 3) := by decide +kernel
theorem dX10_pip_17 : decode cX10_pip 17 = .ok (.iload_n 1, 1) := by decide +kernel
theorem dX10_pip_18 : decode cX10_pip 18 = .ok (.iload_n 3, 1) := by decide +kernel
theorem dX10_pip_19 : decode cX10_pip 19 = .ok (.invokestatic 70, 3) := by decide +kernel
theorem dX10_pip_22 : decode cX10_pip 22 = .ok (.imul, 1) := by decide +kernel
theorem dX10_pip_23 : decode cX10_pip 23 = .ok (.iadd, 1) := by decide +kernel
theorem dX10_pip_24 : decode cX10_pip 24 = .ok (.istore_n 2, 1) := by decide +kernel
theorem dX10_pip_25 : decode cX10_pip 25 = .ok (.iinc 3 1, 3) := by decide +kernel
theorem dX10_pip_28 : decode cX10_pip 28 = .ok (.goto (-24), 3) := by decide +kernel
theorem dX10_pip_31 : decode cX10_pip 31 = .ok (.iload_n 2, 1) := by decide +kernel
theorem dX10_pip_32 : decode cX10_pip 32 = .ok (.ireturn, 1) := by decide +kernel
set_option maxRecDepth 20000 in
theorem ggX10_roll_X10_in : GoodIn wsX10_roll wsX10_in := goodIn_r _ [6] (by decide +kernel) (by decide +kernel)
set_option maxRecDepth 20000 in
theorem gX10_roll_X10_in : GoodIn wsX10_roll (va_wsS RX10 52 yX10_in wsX10_in) := goodIn_app (goodIn_of _ (by decide +kernel)) ggX10_roll_X10_in
set_option maxRecDepth 20000 in
theorem ggX10_roll_X10_throwing : GoodIn wsX10_roll wsX10_throwing := goodIn_r _ [10, 1, 21, 22, 23, 24, 25, 26, 27, 28, 29, 30, 31, 32, 33, 34, 35, 36, 37, 38, 39, 40] (by decide +kernel) (by decide +kernel)
set_option maxRecDepth 20000 in
theorem gX10_roll_X10_throwing : GoodIn wsX10_roll (wsV RX10 125 RX10 yX10_throwing wsX10_throwing) := goodIn_app (goodIn_of _ (by decide +kernel)) ggX10_roll_X10_throwing
set_option maxRecDepth 20000 in
theorem ggX10_roll_X10_save : GoodIn wsX10_roll wsX10_save := goodIn_r _ [14, 15, 16, 2, 21, 22, 23, 24, 25, 26, 27, 28, 29, 30, 31, 32, 33, 34, 35, 36, 37, 38, 39, 40] (by decide +kernel) (by decide +kernel)
set_option maxRecDepth 20000 in
theorem gX10_roll_X10_save : GoodIn wsX10_roll (wsV RX10 128 RX10 yX10_save wsX10_save) := goodIn_app (goodIn_of _ (by decide +kernel)) ggX10_roll_X10_save
set_option maxRecDepth 20000 in
theorem ggX10_roll_X10_rolls : GoodIn wsX10_roll wsX10_rolls := goodIn_r _ [20, 2, 21, 22, 23, 24, 25, 26, 27, 28, 29, 30, 31, 32, 33, 34, 35, 36, 37, 38, 39, 40] (by decide +kernel) (by decide +kernel)
set_option maxRecDepth 20000 in
theorem gX10_roll_X10_rolls : GoodIn wsX10_roll (wsV RX10 131 RX10 yX10_rolls wsX10_rolls) := goodIn_app (goodIn_of _ (by decide +kernel)) ggX10_roll_X10_rolls
theorem dX10_roll_0 : decode cX10_roll 0 = .ok (.aload_n 0, 1) := by decide +kernel
theorem dX10_roll_1 : decode cX10_roll 1 = .ok (.iconst 0, 1) := by decide +kernel
theorem dX10_roll_2 : decode cX10_roll 2 = .ok (.putfield 48, 3) := by decide +kernel
theorem dX10_roll_5 : decode cX10_roll 5 = .ok (.iload_n 1, 1) := by decide +kernel
theorem dX10_roll_6 : decode cX10_roll 6 = .ok (.iconst 1, 1) := by decide +kernel
theorem dX10_roll_7 : decode cX10_roll 7 = .ok (.bipush 6, 2) := by decide +kernel
theorem dX10_roll_9 : decode cX10_roll 9 = .ok (.invokestatic 52, 3) := by decide +kernel
theorem dX10_roll_12 : decode cX10_roll 12 = .ok (.ifCond .eq 13, 3) := by decide +kernel
theorem dX10_roll_15 : decode cX10_roll 15 = .ok (.iload_n 2, 1) := by decide +kernel
theorem dX10_roll_16 : decode cX10_roll 16 = .ok (.iconst 1, 1) := by decide +kernel
theorem dX10_roll_17 : decode cX10_roll 17 = .ok (.bipush 6, 2) := by decide +kernel
theorem dX10_roll_19 : decode cX10_roll 19 = .ok (.invokestatic 52, 3) := by decide +kernel
theorem dX10_roll_22 : decode cX10_roll 22 = .ok (.ifCond .ne 9, 3) := by decide +kernel
theorem dX10_roll_25 : decode cX10_roll 25 = .ok (.aload_n 0, 1) := by decide +kernel
theorem dX10_roll_26 : decode cX10_roll 26 = .ok (.iconst 1, 1) := by decide +kernel
theorem dX10_roll_27 : decode cX10_roll 27 = .ok (.invokevirtual 125, 3) := by decide +kernel
theorem dX10_roll_30 : decode cX10_roll 30 = .ok (.ireturn, 1) := by decide +kernel
theorem dX10_roll_31 : decode cX10_roll 31 = .ok (.aload_n 0, 1) := by decide +kernel
theorem dX10_roll_32 : decode cX10_roll 32 = .ok (.getfield 7, 3) := by decide +kernel
theorem dX10_roll_35 : decode cX10_roll 35 = .ok (.bipush 37, 2) := by decide +kernel
theorem dX10_roll_37 : decode cX10_roll 37 = .ok (.iaload, 1) := by decide +kernel
theorem dX10_roll_38 : decode cX10_roll 38 = .ok (.ifCond .eq 9, 3) := by decide +kernel
theorem dX10_roll_41 : decode cX10_roll 41 = .ok (.aload_n 0, 1) := by decide +kernel
theorem dX10_roll_42 : decode cX10_roll 42 = .ok (.iconst 2, 1) := by decide +kernel
theorem dX10_roll_43 : decode cX10_roll 43 = .ok (.invokevirtual 125, 3) := by decide +kernel
theorem dX10_roll_46 : decode cX10_roll 46 = .ok (.ireturn, 1) := by decide +kernel
theorem dX10_roll_47 : decode cX10_roll 47 = .ok (.aload_n 0, 1) := by decide +kernel
theorem dX10_roll_48 : decode cX10_roll 48 = .ok (.invokevirtual 128, 3) := by decide +kernel
theorem dX10_roll_51 : decode cX10_roll 51 = .ok (.aload_n 0, 1) := by decide +kernel
theorem dX10_roll_52 : decode cX10_roll 52 = .ok (.iload_n 1, 1) := by decide +kernel
theorem dX10_roll_53 : decode cX10_roll 53 = .ok (.iload_n 2, 1) := by decide +kernel
theorem dX10_roll_54 : decode cX10_roll 54 = .ok (.invokevirtual 131, 3) := by decide +kernel
theorem dX10_roll_57 : decode cX10_roll 57 = .ok (.ireturn, 1) := by decide +kernel
set_option maxRecDepth 20000 in
theorem ggX10_fault_X10_in : GoodIn wsX10_fault wsX10_in := goodIn_r _ [4] (by decide +kernel) (by decide +kernel)
set_option maxRecDepth 20000 in
theorem gX10_fault_X10_in : GoodIn wsX10_fault (va_wsS RX10 52 yX10_in wsX10_in) := goodIn_app (goodIn_of _ (by decide +kernel)) ggX10_fault_X10_in
theorem dX10_fault_0 : decode cX10_fault 0 = .ok (.iload_n 0, 1) := by decide +kernel
theorem dX10_fault_1 : decode cX10_fault 1 = .ok (.iconst (-1), 1) := by decide +kernel
theorem dX10_fault_2 : decode cX10_fault 2 = .ok (.bipush 15, 2) := by decide +kernel
theorem dX10_fault_4 : decode cX10_fault 4 = .ok (.invokestatic 52, 3) := by decide +kernel
theorem dX10_fault_7 : decode cX10_fault 7 = .ok (.ifCond .ne 7, 3) := by decide +kernel
theorem dX10_fault_10 : decode cX10_fault 10 = .ok (.iconst 1, 1) := by decide +kernel
theorem dX10_fault_11 : decode cX10_fault 11 = .ok (.goto 18, 3) := by decide +kernel
theorem dX10_fault_14 : decode cX10_fault 14 = .ok (.iload_n 1, 1) := by decide +kernel
theorem dX10_fault_15 : decode cX10_fault 15 = .ok (.iconst 1, 1) := by decide +kernel
theorem dX10_fault_16 : decode cX10_fault 16 = .ok (.bipush 6, 2) := by decide +kernel
theorem dX10_fault_18 : decode cX10_fault 18 = .ok (.invokestatic 52, 3) := by decide +kernel
theorem dX10_fault_21 : decode cX10_fault 21 = .ok (.ifCond .eq 7, 3) := by decide +kernel
theorem dX10_fault_24 : decode cX10_fault 24 = .ok (.iconst 0, 1) := by decide +kernel
theorem dX10_fault_25 : decode cX10_fault 25 = .ok (.goto 4, 3) := by decide +kernel
theorem dX10_fault_28 : decode cX10_fault 28 = .ok (.iconst 2, 1) := by decide +kernel
theorem dX10_fault_29 : decode cX10_fault 29 = .ok (.ireturn, 1) := by decide +kernel
set_option maxRecDepth 20000 in
theorem ggX10_step_X10_fault : GoodIn wsX10_step wsX10_fault := goodIn_r _ [5, 6, 7, 4, 8] (by decide +kernel) (by decide +kernel)
set_option maxRecDepth 20000 in
theorem gX10_step_X10_fault : GoodIn wsX10_step (va_wsS RX10 134 yX10_fault wsX10_fault) := goodIn_app (goodIn_of _ (by decide +kernel)) ggX10_step_X10_fault
set_option maxRecDepth 20000 in
theorem ggX10_step_X10_why : GoodIn wsX10_step wsX10_why := goodIn_r _ [12, 13, 14, 15, 16, 4, 17, 18, 19, 20, 21, 22, 23, 24, 25, 26, 27, 28, 29, 30, 31, 32, 33, 34, 35, 36, 37, 38, 39, 40, 41, 42, 43, 44, 45, 46, 47, 48, 49, 50, 51, 52, 53, 54, 55, 56, 57, 58, 59, 60, 61, 62, 63, 64, 65, 66, 67, 68, 69, 70, 71, 72, 73, 74, 75, 76, 77, 78, 79, 80, 99, 100, 101, 102, 103, 104, 105, 106, 107, 108, 109, 110, 111, 112, 113, 114, 115, 116, 117, 118] (by decide +kernel) (by decide +kernel)
set_option maxRecDepth 20000 in
theorem gX10_step_X10_why : GoodIn wsX10_step (wsV RX10 137 RX10 yX10_why wsX10_why) := goodIn_app (goodIn_of _ (by decide +kernel)) ggX10_step_X10_why
set_option maxRecDepth 20000 in
theorem ggX10_step_X10_save : GoodIn wsX10_step wsX10_save := goodIn_r _ [84, 85, 86, 13, 99, 100, 101, 102, 103, 104, 105, 106, 107, 108, 109, 110, 111, 112, 113, 114, 115, 116, 117, 118] (by decide +kernel) (by decide +kernel)
set_option maxRecDepth 20000 in
theorem gX10_step_X10_save : GoodIn wsX10_step (wsV RX10 128 RX10 yX10_save wsX10_save) := goodIn_app (goodIn_of _ (by decide +kernel)) ggX10_step_X10_save
set_option maxRecDepth 20000 in
theorem ggX10_step_X10_steps : GoodIn wsX10_step wsX10_steps := goodIn_r _ [90, 13, 61, 62, 63, 4, 64, 26, 27, 28, 22, 23, 24, 25, 65, 66, 67, 68, 91, 92, 93, 94, 95, 96, 97, 98, 99, 100, 101, 102, 103, 104, 105, 106, 107, 108, 109, 110, 111, 112, 113, 114, 115, 116, 117, 118] (by decide +kernel) (by decide +kernel)
set_option maxRecDepth 20000 in
theorem gX10_step_X10_steps : GoodIn wsX10_step (wsV RX10 140 RX10 yX10_steps wsX10_steps) := goodIn_app (goodIn_of _ (by decide +kernel)) ggX10_step_X10_steps
theorem dX10_step_0 : decode cX10_step 0 = .ok (.aload_n 0, 1) := by decide +kernel
theorem dX10_step_1 : decode cX10_step 1 = .ok (.iload_n 1, 1) := by decide +kernel
theorem dX10_step_2 : decode cX10_step 2 = .ok (.iload_n 2, 1) := by decide +kernel
theorem dX10_step_3 : decode cX10_step 3 = .ok (.invokestatic 134, 3) := by decide +kernel
theorem dX10_step_6 : decode cX10_step 6 = .ok (.putfield 48, 3) := by decide +kernel
theorem dX10_step_9 : decode cX10_step 9 = .ok (.aload_n 0, 1) := by decide +kernel
theorem dX10_step_10 : decode cX10_step 10 = .ok (.getfield 48, 3) := by decide +kernel
theorem dX10_step_13 : decode cX10_step 13 = .ok (.ifCond .ne 17, 3) := by decide +kernel
theorem dX10_step_16 : decode cX10_step 16 = .ok (.aload_n 0, 1) := by decide +kernel
theorem dX10_step_17 : decode cX10_step 17 = .ok (.iload_n 1, 1) := by decide +kernel
theorem dX10_step_18 : decode cX10_step 18 = .ok (.iload_n 2, 1) := by decide +kernel
theorem dX10_step_19 : decode cX10_step 19 = .ok (.invokevirtual 137, 3) := by decide +kernel
theorem dX10_step_22 : decode cX10_step 22 = .ok (.ifCond .eq 8, 3) := by decide +kernel
theorem dX10_step_25 : decode cX10_step 25 = .ok (.aload_n 0, 1) := by decide +kernel
theorem dX10_step_26 : decode cX10_step 26 = .ok (.iconst 3, 1) := by decide +kernel
theorem dX10_step_27 : decode cX10_step 27 = .ok (.putfield 48, 3) := by decide +kernel
theorem dX10_step_30 : decode cX10_step 30 = .ok (.aload_n 0, 1) := by decide +kernel
theorem dX10_step_31 : decode cX10_step 31 = .ok (.getfield 48, 3) := by decide +kernel
theorem dX10_step_34 : decode cX10_step 34 = .ok (.ifCond .le 5, 3) := by decide +kernel
theorem dX10_step_37 : decode cX10_step 37 = .ok (.iconst 0, 1) := by decide +kernel
theorem dX10_step_38 : decode cX10_step 38 = .ok (.ireturn, 1) := by decide +kernel
theorem dX10_step_39 : decode cX10_step 39 = .ok (.aload_n 0, 1) := by decide +kernel
theorem dX10_step_40 : decode cX10_step 40 = .ok (.invokevirtual 128, 3) := by decide +kernel
theorem dX10_step_43 : decode cX10_step 43 = .ok (.aload_n 0, 1) := by decide +kernel
theorem dX10_step_44 : decode cX10_step 44 = .ok (.iload_n 1, 1) := by decide +kernel
theorem dX10_step_45 : decode cX10_step 45 = .ok (.iload_n 2, 1) := by decide +kernel
theorem dX10_step_46 : decode cX10_step 46 = .ok (.invokevirtual 140, 3) := by decide +kernel
theorem dX10_step_49 : decode cX10_step 49 = .ok (.ireturn, 1) := by decide +kernel
set_option maxRecDepth 20000 in
theorem ggX10_endTurn_X10_canEnd : GoodIn wsX10_endTurn wsX10_canEnd := goodIn_r _ [6, 7, 8, 9, 10, 5, 11, 12, 13, 14, 15, 16, 17, 18, 19, 20, 21, 22, 23, 24, 25, 26, 27, 28, 29, 30, 31, 32, 33, 34, 35, 36, 37, 38, 39, 40, 41, 42, 43, 44, 45, 46, 47, 48, 49, 50, 51, 52, 53, 54, 55, 56, 57, 58, 59, 60, 61, 62, 63, 64, 65, 66, 85, 86, 87, 88, 89, 90, 91, 92, 93, 94, 95, 96, 97, 98, 99, 100, 101, 102, 103, 104] (by decide +kernel) (by decide +kernel)
set_option maxRecDepth 20000 in
theorem gX10_endTurn_X10_canEnd : GoodIn wsX10_endTurn (wsV RX10 143 RX10 yX10_canEnd wsX10_canEnd) := goodIn_app (goodIn_of _ (by decide +kernel)) ggX10_endTurn_X10_canEnd
set_option maxRecDepth 20000 in
theorem ggX10_endTurn_X10_throwing : GoodIn wsX10_endTurn wsX10_throwing := goodIn_r _ [70, 1, 85, 86, 87, 88, 89, 90, 91, 92, 93, 94, 95, 96, 97, 98, 99, 100, 101, 102, 103, 104] (by decide +kernel) (by decide +kernel)
set_option maxRecDepth 20000 in
theorem gX10_endTurn_X10_throwing : GoodIn wsX10_endTurn (wsV RX10 125 RX10 yX10_throwing wsX10_throwing) := goodIn_app (goodIn_of _ (by decide +kernel)) ggX10_endTurn_X10_throwing
set_option maxRecDepth 20000 in
theorem ggX10_endTurn_X10_save : GoodIn wsX10_endTurn wsX10_save := goodIn_r _ [74, 75, 76, 7, 85, 86, 87, 88, 89, 90, 91, 92, 93, 94, 95, 96, 97, 98, 99, 100, 101, 102, 103, 104] (by decide +kernel) (by decide +kernel)
set_option maxRecDepth 20000 in
theorem gX10_endTurn_X10_save : GoodIn wsX10_endTurn (wsV RX10 128 RX10 yX10_save wsX10_save) := goodIn_app (goodIn_of _ (by decide +kernel)) ggX10_endTurn_X10_save
set_option maxRecDepth 20000 in
theorem ggX10_endTurn_X10_ends : GoodIn wsX10_endTurn wsX10_ends := goodIn_r _ [80, 7, 81, 82, 83, 5, 84, 85, 86, 87, 88, 89, 90, 91, 92, 93, 94, 95, 96, 97, 98, 99, 100, 101, 102, 103, 104] (by decide +kernel) (by decide +kernel)
set_option maxRecDepth 20000 in
theorem gX10_endTurn_X10_ends : GoodIn wsX10_endTurn (wsV RX10 146 RX10 yX10_ends wsX10_ends) := goodIn_app (goodIn_of _ (by decide +kernel)) ggX10_endTurn_X10_ends
theorem dX10_endTurn_0 : decode cX10_endTurn 0 = .ok (.aload_n 0, 1) := by decide +kernel
theorem dX10_endTurn_1 : decode cX10_endTurn 1 = .ok (.iconst 0, 1) := by decide +kernel
theorem dX10_endTurn_2 : decode cX10_endTurn 2 = .ok (.putfield 48, 3) := by decide +kernel
theorem dX10_endTurn_5 : decode cX10_endTurn 5 = .ok (.aload_n 0, 1) := by decide +kernel
theorem dX10_endTurn_6 : decode cX10_endTurn 6 = .ok (.invokevirtual 143, 3) := by decide +kernel
theorem dX10_endTurn_9 : decode cX10_endTurn 9 = .ok (.ifCond .ne 9, 3) := by decide +kernel
theorem dX10_endTurn_12 : decode cX10_endTurn 12 = .ok (.aload_n 0, 1) := by decide +kernel
theorem dX10_endTurn_13 : decode cX10_endTurn 13 = .ok (.iconst 1, 1) := by decide +kernel
theorem dX10_endTurn_14 : decode cX10_endTurn 14 = .ok (.invokevirtual 125, 3) := by decide +kernel
theorem dX10_endTurn_17 : decode cX10_endTurn 17 = .ok (.ireturn, 1) := by decide +kernel
theorem dX10_endTurn_18 : decode cX10_endTurn 18 = .ok (.aload_n 0, 1) := by decide +kernel
theorem dX10_endTurn_19 : decode cX10_endTurn 19 = .ok (.invokevirtual 128, 3) := by decide +kernel
theorem dX10_endTurn_22 : decode cX10_endTurn 22 = .ok (.aload_n 0, 1) := by decide +kernel
theorem dX10_endTurn_23 : decode cX10_endTurn 23 = .ok (.invokevirtual 146, 3) := by decide +kernel
theorem dX10_endTurn_26 : decode cX10_endTurn 26 = .ok (.ireturn, 1) := by decide +kernel
set_option maxRecDepth 20000 in
theorem ggX10_carry_X10_isPlayer : GoodIn wsX10_carry wsX10_isPlayer := goodIn_r _ [6, 7, 8, 5, 9] (by decide +kernel) (by decide +kernel)
set_option maxRecDepth 20000 in
theorem gX10_carry_X10_isPlayer : GoodIn wsX10_carry (va_wsS RX10 149 yX10_isPlayer wsX10_isPlayer) := goodIn_app (goodIn_of _ (by decide +kernel)) ggX10_carry_X10_isPlayer
set_option maxRecDepth 20000 in
theorem ggX10_carry_X10_in : GoodIn wsX10_carry wsX10_in := goodIn_r _ [9] (by decide +kernel) (by decide +kernel)
set_option maxRecDepth 20000 in
theorem gX10_carry_X10_in : GoodIn wsX10_carry (va_wsS RX10 52 yX10_in wsX10_in) := goodIn_app (goodIn_of _ (by decide +kernel)) ggX10_carry_X10_in
set_option maxRecDepth 20000 in
theorem ggX10_carry_X10_throwing : GoodIn wsX10_carry wsX10_throwing := goodIn_r _ [13, 1, 38, 39, 40, 41, 42, 43, 44, 45, 46, 47, 48, 49, 50, 51, 52, 53, 54, 55, 56, 57] (by decide +kernel) (by decide +kernel)
set_option maxRecDepth 20000 in
theorem gX10_carry_X10_throwing : GoodIn wsX10_carry (wsV RX10 125 RX10 yX10_throwing wsX10_throwing) := goodIn_app (goodIn_of _ (by decide +kernel)) ggX10_carry_X10_throwing
set_option maxRecDepth 20000 in
theorem ggX10_carry_X10_isPoint : GoodIn wsX10_carry wsX10_isPoint := goodIn_r _ [16, 7, 8, 5, 9] (by decide +kernel) (by decide +kernel)
set_option maxRecDepth 20000 in
theorem gX10_carry_X10_isPoint : GoodIn wsX10_carry (va_wsS RX10 152 yX10_isPoint wsX10_isPoint) := goodIn_app (goodIn_of _ (by decide +kernel)) ggX10_carry_X10_isPoint
set_option maxRecDepth 20000 in
theorem ggX10_carry_X10_at : GoodIn wsX10_carry wsX10_at := goodIn_r _ [20, 2, 38, 39, 40, 41, 42, 43, 44, 45, 46, 47, 48, 49, 50, 51, 52, 53, 54, 55, 56, 57] (by decide +kernel) (by decide +kernel)
set_option maxRecDepth 20000 in
theorem gX10_carry_X10_at : GoodIn wsX10_carry (wsV RX10 66 RX10 yX10_at wsX10_at) := goodIn_app (goodIn_of _ (by decide +kernel)) ggX10_carry_X10_at
set_option maxRecDepth 20000 in
theorem ggX10_carry_X10_save : GoodIn wsX10_carry wsX10_save := goodIn_r _ [24, 25, 26, 2, 38, 39, 40, 41, 42, 43, 44, 45, 46, 47, 48, 49, 50, 51, 52, 53, 54, 55, 56, 57] (by decide +kernel) (by decide +kernel)
set_option maxRecDepth 20000 in
theorem gX10_carry_X10_save : GoodIn wsX10_carry (wsV RX10 128 RX10 yX10_save wsX10_save) := goodIn_app (goodIn_of _ (by decide +kernel)) ggX10_carry_X10_save
set_option maxRecDepth 20000 in
theorem ggX10_carry_X10_grow : GoodIn wsX10_carry wsX10_grow := goodIn_r _ [30, 2, 38, 39, 40, 41, 42, 43, 44, 45, 46, 47, 48, 49, 50, 51, 52, 53, 54, 55, 56, 57] (by decide +kernel) (by decide +kernel)
set_option maxRecDepth 20000 in
theorem gX10_carry_X10_grow : GoodIn wsX10_carry (wsV RX10 59 RX10 yX10_grow wsX10_grow) := goodIn_app (goodIn_of _ (by decide +kernel)) ggX10_carry_X10_grow
set_option maxRecDepth 20000 in
theorem ggX10_carry_X10_pip : GoodIn wsX10_carry wsX10_pip := goodIn_r _ [34, 17, 18, 19, 5, 20, 2, 35, 36, 37, 38, 39, 40, 41, 42, 43, 44, 45, 46, 47, 48, 49, 50, 51, 52, 53, 54, 55, 56, 57] (by decide +kernel) (by decide +kernel)
set_option maxRecDepth 20000 in
theorem gX10_carry_X10_pip : GoodIn wsX10_carry (wsV RX10 155 RX10 yX10_pip wsX10_pip) := goodIn_app (goodIn_of _ (by decide +kernel)) ggX10_carry_X10_pip
theorem dX10_carry_0 : decode cX10_carry 0 = .ok (.aload_n 0, 1) := by decide +kernel
theorem dX10_carry_1 : decode cX10_carry 1 = .ok (.iconst 0, 1) := by decide +kernel
theorem dX10_carry_2 : decode cX10_carry 2 = .ok (.putfield 48, 3) := by decide +kernel
theorem dX10_carry_5 : decode cX10_carry 5 = .ok (.iload_n 1, 1) := by decide +kernel
theorem dX10_carry_6 : decode cX10_carry 6 = .ok (.invokestatic 149, 3) := by decide +kernel
theorem dX10_carry_9 : decode cX10_carry 9 = .ok (.ifCond .eq 23, 3) := by decide +kernel
theorem dX10_carry_12 : decode cX10_carry 12 = .ok (.iload_n 2, 1) := by decide +kernel
theorem dX10_carry_13 : decode cX10_carry 13 = .ok (.iconst (-1), 1) := by decide +kernel
theorem dX10_carry_14 : decode cX10_carry 14 = .ok (.bipush 16, 2) := by decide +kernel
theorem dX10_carry_16 : decode cX10_carry 16 = .ok (.invokestatic 52, 3) := by decide +kernel
theorem dX10_carry_19 : decode cX10_carry 19 = .ok (.ifCond .eq 13, 3) := by decide +kernel
theorem dX10_carry_22 : decode cX10_carry 22 = .ok (.iload_n 3, 1) := by decide +kernel
theorem dX10_carry_23 : decode cX10_carry 23 = .ok (.iconst (-1), 1) := by decide +kernel
theorem dX10_carry_24 : decode cX10_carry 24 = .ok (.bipush 16, 2) := by decide +kernel
theorem dX10_carry_26 : decode cX10_carry 26 = .ok (.invokestatic 52, 3) := by decide +kernel
theorem dX10_carry_29 : decode cX10_carry 29 = .ok (.ifCond .ne 9, 3) := by decide +kernel
theorem dX10_carry_32 : decode cX10_carry 32 = .ok (.aload_n 0, 1) := by decide +kernel
theorem dX10_carry_33 : decode cX10_carry 33 = .ok (.iconst 1, 1) := by decide +kernel
theorem dX10_carry_34 : decode cX10_carry 34 = .ok (.invokevirtual 125, 3) := by decide +kernel
theorem dX10_carry_37 : decode cX10_carry 37 = .ok (.ireturn, 1) := by decide +kernel
theorem dX10_carry_38 : decode cX10_carry 38 = .ok (.iload_n 3, 1) := by decide +kernel
theorem dX10_carry_39 : decode cX10_carry 39 = .ok (.invokestatic 152, 3) := by decide +kernel
theorem dX10_carry_42 : decode cX10_carry 42 = .ok (.ifCond .eq 18, 3) := by decide +kernel
theorem dX10_carry_45 : decode cX10_carry 45 = .ok (.aload_n 0, 1) := by decide +kernel
theorem dX10_carry_46 : decode cX10_carry 46 = .ok (.iconst 1, 1) := by decide +kernel
theorem dX10_carry_47 : decode cX10_carry 47 = .ok (.iload_n 1, 1) := by decide +kernel
theorem dX10_carry_48 : decode cX10_carry 48 = .ok (.isub, 1) := by decide +kernel
theorem dX10_carry_49 : decode cX10_carry 49 = .ok (.iload_n 3, 1) := by decide +kernel
theorem dX10_carry_50 : decode cX10_carry 50 = .ok (.invokevirtual 66, 3) := by decide +kernel
theorem dX10_carry_53 : decode cX10_carry 53 = .ok (.ifCond .le 7, 3) := by decide +kernel
theorem dX10_carry_56 : decode cX10_carry 56 = .ok (.iconst 1, 1) := by decide +kernel
theorem dX10_carry_57 : decode cX10_carry 57 = .ok (.goto 4, 3) := by decide +kernel
theorem dX10_carry_60 : decode cX10_carry 60 = .ok (.iconst 0, 1) := by decide +kernel
theorem dX10_carry_61 : decode cX10_carry 61 = .ok (.istore 4, 2) := by decide +kernel
theorem dX10_carry_63 : decode cX10_carry 63 = .ok (.iload_n 3, 1) := by decide +kernel
theorem dX10_carry_64 : decode cX10_carry 64 = .ok (.bipush 16, 2) := by decide +kernel
theorem dX10_carry_66 : decode cX10_carry 66 = .ok (.if_icmp .ne 24, 3) := by decide +kernel
theorem dX10_carry_69 : decode cX10_carry 69 = .ok (.iload_n 2, 1) := by decide +kernel
theorem dX10_carry_70 : decode cX10_carry 70 = .ok (.bipush 16, 2) := by decide +kernel
theorem dX10_carry_72 : decode cX10_carry 72 = .ok (.if_icmp .eq 18, 3) := by decide +kernel
theorem dX10_carry_75 : decode cX10_carry 75 = .ok (.aload_n 0, 1) := by decide +kernel
theorem dX10_carry_76 : decode cX10_carry 76 = .ok (.iload_n 1, 1) := by decide +kernel
theorem dX10_carry_77 : decode cX10_carry 77 = .ok (.bipush 16, 2) := by decide +kernel
theorem dX10_carry_79 : decode cX10_carry 79 = .ok (.invokevirtual 66, 3) := by decide +kernel
theorem dX10_carry_82 : decode cX10_carry 82 = .ok (.iconst 5, 1) := by decide +kernel
theorem dX10_carry_83 : decode cX10_carry 83 = .ok (.if_icmp .ne 7, 3) := by decide +kernel
theorem dX10_carry_86 : decode cX10_carry 86 = .ok (.iconst 1, 1) := by decide +kernel
theorem dX10_carry_87 : decode cX10_carry 87 = .ok (.goto 4, 3) := by decide +kernel
theorem dX10_carry_90 : decode cX10_carry 90 = .ok (.iconst 0, 1) := by decide +kernel
theorem dX10_carry_91 : decode cX10_carry 91 = .ok (.istore 5, 2) := by decide +kernel
theorem dX10_carry_93 : decode cX10_carry 93 = .ok (.aload_n 0, 1) := by decide +kernel
theorem dX10_carry_94 : decode cX10_carry 94 = .ok (.iload_n 1, 1) := by decide +kernel
theorem dX10_carry_95 : decode cX10_carry 95 = .ok (.iload_n 2, 1) := by decide +kernel
theorem dX10_carry_96 : decode cX10_carry 96 = .ok (.invokevirtual 66, 3) := by decide +kernel
theorem dX10_carry_99 : decode cX10_carry 99 = .ok (.ifCond .eq 23, 3) := by decide +kernel
theorem dX10_carry_102 : decode cX10_carry 102 = .ok (.iload 4, 2) := by decide +kernel
theorem dX10_carry_104 : decode cX10_carry 104 = .ok (.ifCond .ne 18, 3) := by decide +kernel
theorem dX10_carry_107 : decode cX10_carry 107 = .ok (.iload 5, 2) := by decide +kernel
theorem dX10_carry_109 : decode cX10_carry 109 = .ok (.ifCond .ne 13, 3) := by decide +kernel
theorem dX10_carry_112 : decode cX10_carry 112 = .ok (.aload_n 0, 1) := by decide +kernel
theorem dX10_carry_113 : decode cX10_carry 113 = .ok (.getfield 7, 3) := by decide +kernel
theorem dX10_carry_116 : decode cX10_carry 116 = .ok (.bipush 37, 2) := by decide +kernel
theorem dX10_carry_118 : decode cX10_carry 118 = .ok (.iaload, 1) := by decide +kernel
theorem dX10_carry_119 : decode cX10_carry 119 = .ok (.ifCond .eq 9, 3) := by decide +kernel
theorem dX10_carry_122 : decode cX10_carry 122 = .ok (.aload_n 0, 1) := by decide +kernel
theorem dX10_carry_123 : decode cX10_carry 123 = .ok (.iconst 2, 1) := by decide +kernel
theorem dX10_carry_124 : decode cX10_carry 124 = .ok (.invokevirtual 125, 3) := by decide +kernel
theorem dX10_carry_127 : decode cX10_carry 127 = .ok (.ireturn, 1) := by decide +kernel
theorem dX10_carry_128 : decode cX10_carry 128 = .ok (.aload_n 0, 1) := by decide +kernel
theorem dX10_carry_129 : decode cX10_carry 129 = .ok (.invokevirtual 128, 3) := by decide +kernel
theorem dX10_carry_132 : decode cX10_carry 132 = .ok (.aload_n 0, 1) := by decide +kernel
theorem dX10_carry_133 : decode cX10_carry 133 = .ok (.iload_n 1, 1) := by decide +kernel
theorem dX10_carry_134 : decode cX10_carry 134 = .ok (.iload_n 2, 1) := by decide +kernel
theorem dX10_carry_135 : decode cX10_carry 135 = .ok (.iconst (-1), 1) := by decide +kernel
theorem dX10_carry_136 : decode cX10_carry 136 = .ok (.invokevirtual 59, 3) := by decide +kernel
theorem dX10_carry_139 : decode cX10_carry 139 = .ok (.aload_n 0, 1) := by decide +kernel
theorem dX10_carry_140 : decode cX10_carry 140 = .ok (.iload_n 1, 1) := by decide +kernel
theorem dX10_carry_141 : decode cX10_carry 141 = .ok (.iload_n 3, 1) := by decide +kernel
theorem dX10_carry_142 : decode cX10_carry 142 = .ok (.iconst 1, 1) := by decide +kernel
theorem dX10_carry_143 : decode cX10_carry 143 = .ok (.invokevirtual 59, 3) := by decide +kernel
theorem dX10_carry_146 : decode cX10_carry 146 = .ok (.aload_n 0, 1) := by decide +kernel
theorem dX10_carry_147 : decode cX10_carry 147 = .ok (.iload_n 1, 1) := by decide +kernel
theorem dX10_carry_148 : decode cX10_carry 148 = .ok (.invokevirtual 155, 3) := by decide +kernel
theorem dX10_carry_151 : decode cX10_carry 151 = .ok (.ireturn, 1) := by decide +kernel
set_option maxRecDepth 20000 in
theorem ggX10_offer_X10_canOffer : GoodIn wsX10_offer wsX10_canOffer := goodIn_r _ [6, 7, 22, 23, 24, 25, 26, 27, 28, 29, 30, 31, 32, 33, 34, 35, 36, 37, 38, 39, 40, 41] (by decide +kernel) (by decide +kernel)
set_option maxRecDepth 20000 in
theorem gX10_offer_X10_canOffer : GoodIn wsX10_offer (wsV RX10 158 RX10 yX10_canOffer wsX10_canOffer) := goodIn_app (goodIn_of _ (by decide +kernel)) ggX10_offer_X10_canOffer
set_option maxRecDepth 20000 in
theorem ggX10_offer_X10_throwing : GoodIn wsX10_offer wsX10_throwing := goodIn_r _ [11, 1, 22, 23, 24, 25, 26, 27, 28, 29, 30, 31, 32, 33, 34, 35, 36, 37, 38, 39, 40, 41] (by decide +kernel) (by decide +kernel)
set_option maxRecDepth 20000 in
theorem gX10_offer_X10_throwing : GoodIn wsX10_offer (wsV RX10 125 RX10 yX10_throwing wsX10_throwing) := goodIn_app (goodIn_of _ (by decide +kernel)) ggX10_offer_X10_throwing
set_option maxRecDepth 20000 in
theorem ggX10_offer_X10_save : GoodIn wsX10_offer wsX10_save := goodIn_r _ [15, 16, 17, 7, 22, 23, 24, 25, 26, 27, 28, 29, 30, 31, 32, 33, 34, 35, 36, 37, 38, 39, 40, 41] (by decide +kernel) (by decide +kernel)
set_option maxRecDepth 20000 in
theorem gX10_offer_X10_save : GoodIn wsX10_offer (wsV RX10 128 RX10 yX10_save wsX10_save) := goodIn_app (goodIn_of _ (by decide +kernel)) ggX10_offer_X10_save
set_option maxRecDepth 20000 in
theorem ggX10_offer_X10_offers : GoodIn wsX10_offer wsX10_offers := goodIn_r _ [21, 7, 22, 23, 24, 25, 26, 27, 28, 29, 30, 31, 32, 33, 34, 35, 36, 37, 38, 39, 40, 41] (by decide +kernel) (by decide +kernel)
set_option maxRecDepth 20000 in
theorem gX10_offer_X10_offers : GoodIn wsX10_offer (wsV RX10 161 RX10 yX10_offers wsX10_offers) := goodIn_app (goodIn_of _ (by decide +kernel)) ggX10_offer_X10_offers
theorem dX10_offer_0 : decode cX10_offer 0 = .ok (.aload_n 0, 1) := by decide +kernel
theorem dX10_offer_1 : decode cX10_offer 1 = .ok (.iconst 0, 1) := by decide +kernel
theorem dX10_offer_2 : decode cX10_offer 2 = .ok (.putfield 48, 3) := by decide +kernel
theorem dX10_offer_5 : decode cX10_offer 5 = .ok (.aload_n 0, 1) := by decide +kernel
theorem dX10_offer_6 : decode cX10_offer 6 = .ok (.invokevirtual 158, 3) := by decide +kernel
theorem dX10_offer_9 : decode cX10_offer 9 = .ok (.ifCond .ne 9, 3) := by decide +kernel
theorem dX10_offer_12 : decode cX10_offer 12 = .ok (.aload_n 0, 1) := by decide +kernel
theorem dX10_offer_13 : decode cX10_offer 13 = .ok (.iconst 1, 1) := by decide +kernel
theorem dX10_offer_14 : decode cX10_offer 14 = .ok (.invokevirtual 125, 3) := by decide +kernel
theorem dX10_offer_17 : decode cX10_offer 17 = .ok (.ireturn, 1) := by decide +kernel
theorem dX10_offer_18 : decode cX10_offer 18 = .ok (.aload_n 0, 1) := by decide +kernel
theorem dX10_offer_19 : decode cX10_offer 19 = .ok (.invokevirtual 128, 3) := by decide +kernel
theorem dX10_offer_22 : decode cX10_offer 22 = .ok (.aload_n 0, 1) := by decide +kernel
theorem dX10_offer_23 : decode cX10_offer 23 = .ok (.invokevirtual 161, 3) := by decide +kernel
theorem dX10_offer_26 : decode cX10_offer 26 = .ok (.ireturn, 1) := by decide +kernel
set_option maxRecDepth 20000 in
theorem ggX10_take_X10_throwing : GoodIn wsX10_take wsX10_throwing := goodIn_r _ [7, 1, 18, 19, 20, 21, 22, 23, 24, 25, 26, 27, 28, 29, 30, 31, 32, 33, 34, 35, 36, 37] (by decide +kernel) (by decide +kernel)
set_option maxRecDepth 20000 in
theorem gX10_take_X10_throwing : GoodIn wsX10_take (wsV RX10 125 RX10 yX10_throwing wsX10_throwing) := goodIn_app (goodIn_of _ (by decide +kernel)) ggX10_take_X10_throwing
set_option maxRecDepth 20000 in
theorem ggX10_take_X10_save : GoodIn wsX10_take wsX10_save := goodIn_r _ [11, 12, 13, 2, 18, 19, 20, 21, 22, 23, 24, 25, 26, 27, 28, 29, 30, 31, 32, 33, 34, 35, 36, 37] (by decide +kernel) (by decide +kernel)
set_option maxRecDepth 20000 in
theorem gX10_take_X10_save : GoodIn wsX10_take (wsV RX10 128 RX10 yX10_save wsX10_save) := goodIn_app (goodIn_of _ (by decide +kernel)) ggX10_take_X10_save
set_option maxRecDepth 20000 in
theorem ggX10_take_X10_doubles : GoodIn wsX10_take wsX10_doubles := goodIn_r _ [17, 2, 18, 19, 20, 21, 22, 23, 24, 25, 26, 27, 28, 29, 30, 31, 32, 33, 34, 35, 36, 37] (by decide +kernel) (by decide +kernel)
set_option maxRecDepth 20000 in
theorem gX10_take_X10_doubles : GoodIn wsX10_take (wsV RX10 164 RX10 yX10_doubles wsX10_doubles) := goodIn_app (goodIn_of _ (by decide +kernel)) ggX10_take_X10_doubles
theorem dX10_take_0 : decode cX10_take 0 = .ok (.aload_n 0, 1) := by decide +kernel
theorem dX10_take_1 : decode cX10_take 1 = .ok (.iconst 0, 1) := by decide +kernel
theorem dX10_take_2 : decode cX10_take 2 = .ok (.putfield 48, 3) := by decide +kernel
theorem dX10_take_5 : decode cX10_take 5 = .ok (.aload_n 0, 1) := by decide +kernel
theorem dX10_take_6 : decode cX10_take 6 = .ok (.getfield 7, 3) := by decide +kernel
theorem dX10_take_9 : decode cX10_take 9 = .ok (.bipush 37, 2) := by decide +kernel
theorem dX10_take_11 : decode cX10_take 11 = .ok (.iaload, 1) := by decide +kernel
theorem dX10_take_12 : decode cX10_take 12 = .ok (.iconst 2, 1) := by decide +kernel
theorem dX10_take_13 : decode cX10_take 13 = .ok (.if_icmp .eq 9, 3) := by decide +kernel
theorem dX10_take_16 : decode cX10_take 16 = .ok (.aload_n 0, 1) := by decide +kernel
theorem dX10_take_17 : decode cX10_take 17 = .ok (.iconst 1, 1) := by decide +kernel
theorem dX10_take_18 : decode cX10_take 18 = .ok (.invokevirtual 125, 3) := by decide +kernel
theorem dX10_take_21 : decode cX10_take 21 = .ok (.ireturn, 1) := by decide +kernel
theorem dX10_take_22 : decode cX10_take 22 = .ok (.aload_n 0, 1) := by decide +kernel
theorem dX10_take_23 : decode cX10_take 23 = .ok (.invokevirtual 128, 3) := by decide +kernel
theorem dX10_take_26 : decode cX10_take 26 = .ok (.aload_n 0, 1) := by decide +kernel
theorem dX10_take_27 : decode cX10_take 27 = .ok (.invokevirtual 164, 3) := by decide +kernel
theorem dX10_take_30 : decode cX10_take 30 = .ok (.ireturn, 1) := by decide +kernel
set_option maxRecDepth 20000 in
theorem ggX10_drop_X10_throwing : GoodIn wsX10_drop wsX10_throwing := goodIn_r _ [7, 1, 18, 19, 20, 21, 22, 23, 24, 25, 26, 27, 28, 29, 30, 31, 32, 33, 34, 35, 36, 37] (by decide +kernel) (by decide +kernel)
set_option maxRecDepth 20000 in
theorem gX10_drop_X10_throwing : GoodIn wsX10_drop (wsV RX10 125 RX10 yX10_throwing wsX10_throwing) := goodIn_app (goodIn_of _ (by decide +kernel)) ggX10_drop_X10_throwing
set_option maxRecDepth 20000 in
theorem ggX10_drop_X10_save : GoodIn wsX10_drop wsX10_save := goodIn_r _ [11, 12, 13, 2, 18, 19, 20, 21, 22, 23, 24, 25, 26, 27, 28, 29, 30, 31, 32, 33, 34, 35, 36, 37] (by decide +kernel) (by decide +kernel)
set_option maxRecDepth 20000 in
theorem gX10_drop_X10_save : GoodIn wsX10_drop (wsV RX10 128 RX10 yX10_save wsX10_save) := goodIn_app (goodIn_of _ (by decide +kernel)) ggX10_drop_X10_save
set_option maxRecDepth 20000 in
theorem ggX10_drop_X10_drops : GoodIn wsX10_drop wsX10_drops := goodIn_r _ [17, 2, 18, 19, 20, 21, 22, 23, 24, 25, 26, 27, 28, 29, 30, 31, 32, 33, 34, 35, 36, 37] (by decide +kernel) (by decide +kernel)
set_option maxRecDepth 20000 in
theorem gX10_drop_X10_drops : GoodIn wsX10_drop (wsV RX10 167 RX10 yX10_drops wsX10_drops) := goodIn_app (goodIn_of _ (by decide +kernel)) ggX10_drop_X10_drops
theorem dX10_drop_0 : decode cX10_drop 0 = .ok (.aload_n 0, 1) := by decide +kernel
theorem dX10_drop_1 : decode cX10_drop 1 = .ok (.iconst 0, 1) := by decide +kernel
theorem dX10_drop_2 : decode cX10_drop 2 = .ok (.putfield 48, 3) := by decide +kernel
theorem dX10_drop_5 : decode cX10_drop 5 = .ok (.aload_n 0, 1) := by decide +kernel
theorem dX10_drop_6 : decode cX10_drop 6 = .ok (.getfield 7, 3) := by decide +kernel
theorem dX10_drop_9 : decode cX10_drop 9 = .ok (.bipush 37, 2) := by decide +kernel
theorem dX10_drop_11 : decode cX10_drop 11 = .ok (.iaload, 1) := by decide +kernel
theorem dX10_drop_12 : decode cX10_drop 12 = .ok (.iconst 2, 1) := by decide +kernel
theorem dX10_drop_13 : decode cX10_drop 13 = .ok (.if_icmp .eq 9, 3) := by decide +kernel
theorem dX10_drop_16 : decode cX10_drop 16 = .ok (.aload_n 0, 1) := by decide +kernel
theorem dX10_drop_17 : decode cX10_drop 17 = .ok (.iconst 1, 1) := by decide +kernel
theorem dX10_drop_18 : decode cX10_drop 18 = .ok (.invokevirtual 125, 3) := by decide +kernel
theorem dX10_drop_21 : decode cX10_drop 21 = .ok (.ireturn, 1) := by decide +kernel
theorem dX10_drop_22 : decode cX10_drop 22 = .ok (.aload_n 0, 1) := by decide +kernel
theorem dX10_drop_23 : decode cX10_drop 23 = .ok (.invokevirtual 128, 3) := by decide +kernel
theorem dX10_drop_26 : decode cX10_drop 26 = .ok (.aload_n 0, 1) := by decide +kernel
theorem dX10_drop_27 : decode cX10_drop 27 = .ok (.invokevirtual 167, 3) := by decide +kernel
theorem dX10_drop_30 : decode cX10_drop 30 = .ok (.ireturn, 1) := by decide +kernel
set_option maxRecDepth 20000 in
theorem ggX10_newGame_X10_throwing : GoodIn wsX10_newGame wsX10_throwing := goodIn_r _ [7, 1, 30, 31, 32, 33, 34, 35, 36, 37, 38, 39, 40, 41, 42, 43, 44, 45, 46, 47, 48, 49] (by decide +kernel) (by decide +kernel)
set_option maxRecDepth 20000 in
theorem gX10_newGame_X10_throwing : GoodIn wsX10_newGame (wsV RX10 125 RX10 yX10_throwing wsX10_throwing) := goodIn_app (goodIn_of _ (by decide +kernel)) ggX10_newGame_X10_throwing
set_option maxRecDepth 20000 in
theorem ggX10_newGame_X10_save : GoodIn wsX10_newGame wsX10_save := goodIn_r _ [11, 12, 13, 2, 30, 31, 32, 33, 34, 35, 36, 37, 38, 39, 40, 41, 42, 43, 44, 45, 46, 47, 48, 49] (by decide +kernel) (by decide +kernel)
set_option maxRecDepth 20000 in
theorem gX10_newGame_X10_save : GoodIn wsX10_newGame (wsV RX10 128 RX10 yX10_save wsX10_save) := goodIn_app (goodIn_of _ (by decide +kernel)) ggX10_newGame_X10_save
set_option maxRecDepth 20000 in
theorem ggX10_newGame_X10_anew : GoodIn wsX10_newGame wsX10_anew := goodIn_r _ [17, 2, 18, 19, 20, 6, 21, 22, 23, 24, 25, 26, 27, 28, 29, 30, 31, 32, 33, 34, 35, 36, 37, 38, 39, 40, 41, 42, 43, 44, 45, 46, 47, 48, 49] (by decide +kernel) (by decide +kernel)
set_option maxRecDepth 20000 in
theorem gX10_newGame_X10_anew : GoodIn wsX10_newGame (wsV RX10 170 RX10 yX10_anew wsX10_anew) := goodIn_app (goodIn_of _ (by decide +kernel)) ggX10_newGame_X10_anew
theorem dX10_newGame_0 : decode cX10_newGame 0 = .ok (.aload_n 0, 1) := by decide +kernel
theorem dX10_newGame_1 : decode cX10_newGame 1 = .ok (.iconst 0, 1) := by decide +kernel
theorem dX10_newGame_2 : decode cX10_newGame 2 = .ok (.putfield 48, 3) := by decide +kernel
theorem dX10_newGame_5 : decode cX10_newGame 5 = .ok (.aload_n 0, 1) := by decide +kernel
theorem dX10_newGame_6 : decode cX10_newGame 6 = .ok (.getfield 7, 3) := by decide +kernel
theorem dX10_newGame_9 : decode cX10_newGame 9 = .ok (.bipush 37, 2) := by decide +kernel
theorem dX10_newGame_11 : decode cX10_newGame 11 = .ok (.iaload, 1) := by decide +kernel
theorem dX10_newGame_12 : decode cX10_newGame 12 = .ok (.iconst 3, 1) := by decide +kernel
theorem dX10_newGame_13 : decode cX10_newGame 13 = .ok (.if_icmp .eq 9, 3) := by decide +kernel
theorem dX10_newGame_16 : decode cX10_newGame 16 = .ok (.aload_n 0, 1) := by decide +kernel
theorem dX10_newGame_17 : decode cX10_newGame 17 = .ok (.iconst 1, 1) := by decide +kernel
theorem dX10_newGame_18 : decode cX10_newGame 18 = .ok (.invokevirtual 125, 3) := by decide +kernel
theorem dX10_newGame_21 : decode cX10_newGame 21 = .ok (.ireturn, 1) := by decide +kernel
theorem dX10_newGame_22 : decode cX10_newGame 22 = .ok (.aload_n 0, 1) := by decide +kernel
theorem dX10_newGame_23 : decode cX10_newGame 23 = .ok (.invokevirtual 128, 3) := by decide +kernel
theorem dX10_newGame_26 : decode cX10_newGame 26 = .ok (.aload_n 0, 1) := by decide +kernel
theorem dX10_newGame_27 : decode cX10_newGame 27 = .ok (.invokevirtual 170, 3) := by decide +kernel
theorem dX10_newGame_30 : decode cX10_newGame 30 = .ok (.ireturn, 1) := by decide +kernel
set_option maxRecDepth 20000 in
theorem ggX10_append_X10_in : GoodIn wsX10_append wsX10_in := goodIn_r _ [7] (by decide +kernel) (by decide +kernel)
set_option maxRecDepth 20000 in
theorem gX10_append_X10_in : GoodIn wsX10_append (va_wsS RX10 52 yX10_in wsX10_in) := goodIn_app (goodIn_of _ (by decide +kernel)) ggX10_append_X10_in
set_option maxRecDepth 20000 in
theorem ggX10_append_X10_throwing : GoodIn wsX10_append wsX10_throwing := goodIn_r _ [11, 1, 12, 13, 14, 15, 16, 17, 18, 19, 20, 21, 22, 23, 24, 25, 26, 27, 28, 29, 30, 31] (by decide +kernel) (by decide +kernel)
set_option maxRecDepth 20000 in
theorem gX10_append_X10_throwing : GoodIn wsX10_append (wsV RX10 125 RX10 yX10_throwing wsX10_throwing) := goodIn_app (goodIn_of _ (by decide +kernel)) ggX10_append_X10_throwing
theorem dX10_append_0 : decode cX10_append 0 = .ok (.aload_n 0, 1) := by decide +kernel
theorem dX10_append_1 : decode cX10_append 1 = .ok (.iconst 0, 1) := by decide +kernel
theorem dX10_append_2 : decode cX10_append 2 = .ok (.putfield 48, 3) := by decide +kernel
theorem dX10_append_5 : decode cX10_append 5 = .ok (.iload_n 1, 1) := by decide +kernel
theorem dX10_append_6 : decode cX10_append 6 = .ok (.bipush 33, 2) := by decide +kernel
theorem dX10_append_8 : decode cX10_append 8 = .ok (.bipush 126, 2) := by decide +kernel
theorem dX10_append_10 : decode cX10_append 10 = .ok (.invokestatic 52, 3) := by decide +kernel
theorem dX10_append_13 : decode cX10_append 13 = .ok (.ifCond .ne 9, 3) := by decide +kernel
theorem dX10_append_16 : decode cX10_append 16 = .ok (.aload_n 0, 1) := by decide +kernel
theorem dX10_append_17 : decode cX10_append 17 = .ok (.iconst 1, 1) := by decide +kernel
theorem dX10_append_18 : decode cX10_append 18 = .ok (.invokevirtual 125, 3) := by decide +kernel
theorem dX10_append_21 : decode cX10_append 21 = .ok (.ireturn, 1) := by decide +kernel
theorem dX10_append_22 : decode cX10_append 22 = .ok (.aload_n 0, 1) := by decide +kernel
theorem dX10_append_23 : decode cX10_append 23 = .ok (.getfield 173, 3) := by decide +kernel
theorem dX10_append_26 : decode cX10_append 26 = .ok (.bipush 60, 2) := by decide +kernel
theorem dX10_append_28 : decode cX10_append 28 = .ok (.if_icmp .ne 9, 3) := by decide +kernel
theorem dX10_append_31 : decode cX10_append 31 = .ok (.aload_n 0, 1) := by decide +kernel
theorem dX10_append_32 : decode cX10_append 32 = .ok (.iconst 2, 1) := by decide +kernel
theorem dX10_append_33 : decode cX10_append 33 = .ok (.invokevirtual 125, 3) := by decide +kernel
theorem dX10_append_36 : decode cX10_append 36 = .ok (.ireturn, 1) := by decide +kernel
theorem dX10_append_37 : decode cX10_append 37 = .ok (.aload_n 0, 1) := by decide +kernel
theorem dX10_append_38 : decode cX10_append 38 = .ok (.getfield 22, 3) := by decide +kernel
theorem dX10_append_41 : decode cX10_append 41 = .ok (.aload_n 0, 1) := by decide +kernel
theorem dX10_append_42 : decode cX10_append 42 = .ok (.getfield 173, 3) := by decide +kernel
theorem dX10_append_45 : decode cX10_append 45 = .ok (.iload_n 1, 1) := by decide +kernel
theorem dX10_append_46 : decode cX10_append 46 = .ok (.iastore, 1) := by decide +kernel
theorem dX10_append_47 : decode cX10_append 47 = .ok (.aload_n 0, 1) := by decide +kernel
theorem dX10_append_48 : decode cX10_append 48 = .ok (.dup, 1) := by decide +kernel
theorem dX10_append_49 : decode cX10_append 49 = .ok (.getfield 173, 3) := by decide +kernel
theorem dX10_append_52 : decode cX10_append 52 = .ok (.iconst 1, 1) := by decide +kernel
theorem dX10_append_53 : decode cX10_append 53 = .ok (.iadd, 1) := by decide +kernel
theorem dX10_append_54 : decode cX10_append 54 = .ok (.putfield 173, 3) := by decide +kernel
theorem dX10_append_57 : decode cX10_append 57 = .ok (.aload_n 0, 1) := by decide +kernel
theorem dX10_append_58 : decode cX10_append 58 = .ok (.getfield 173, 3) := by decide +kernel
theorem dX10_append_61 : decode cX10_append 61 = .ok (.ireturn, 1) := by decide +kernel
theorem dX10_clearBuffer_0 : decode cX10_clearBuffer 0 = .ok (.aload_n 0, 1) := by decide +kernel
theorem dX10_clearBuffer_1 : decode cX10_clearBuffer 1 = .ok (.iconst 0, 1) := by decide +kernel
theorem dX10_clearBuffer_2 : decode cX10_clearBuffer 2 = .ok (.putfield 48, 3) := by decide +kernel
theorem dX10_clearBuffer_5 : decode cX10_clearBuffer 5 = .ok (.aload_n 0, 1) := by decide +kernel
theorem dX10_clearBuffer_6 : decode cX10_clearBuffer 6 = .ok (.getfield 173, 3) := by decide +kernel
theorem dX10_clearBuffer_9 : decode cX10_clearBuffer 9 = .ok (.istore_n 1, 1) := by decide +kernel
theorem dX10_clearBuffer_10 : decode cX10_clearBuffer 10 = .ok (.aload_n 0, 1) := by decide +kernel
theorem dX10_clearBuffer_11 : decode cX10_clearBuffer 11 = .ok (.iconst 0, 1) := by decide +kernel
theorem dX10_clearBuffer_12 : decode cX10_clearBuffer 12 = .ok (.putfield 173, 3) := by decide +kernel
theorem dX10_clearBuffer_15 : decode cX10_clearBuffer 15 = .ok (.iload_n 1, 1) := by decide +kernel
theorem dX10_clearBuffer_16 : decode cX10_clearBuffer 16 = .ok (.ireturn, 1) := by decide +kernel
set_option maxRecDepth 20000 in
theorem ggX10_sign_X10_in : GoodIn wsX10_sign wsX10_in := goodIn_r _ [8] (by decide +kernel) (by decide +kernel)
set_option maxRecDepth 20000 in
theorem gX10_sign_X10_in : GoodIn wsX10_sign (va_wsS RX10 52 yX10_in wsX10_in) := goodIn_app (goodIn_of _ (by decide +kernel)) ggX10_sign_X10_in
theorem dX10_sign_0 : decode cX10_sign 0 = .ok (.aload_n 0, 1) := by decide +kernel
theorem dX10_sign_1 : decode cX10_sign 1 = .ok (.getfield 176, 3) := by decide +kernel
theorem dX10_sign_4 : decode cX10_sign 4 = .ok (.aload_n 0, 1) := by decide +kernel
theorem dX10_sign_5 : decode cX10_sign 5 = .ok (.getfield 173, 3) := by decide +kernel
theorem dX10_sign_8 : decode cX10_sign 8 = .ok (.if_icmp .ge 22, 3) := by decide +kernel
theorem dX10_sign_11 : decode cX10_sign 11 = .ok (.aload_n 0, 1) := by decide +kernel
theorem dX10_sign_12 : decode cX10_sign 12 = .ok (.getfield 179, 3) := by decide +kernel
theorem dX10_sign_15 : decode cX10_sign 15 = .ok (.ifCond .ne 15, 3) := by decide +kernel
theorem dX10_sign_18 : decode cX10_sign 18 = .ok (.aload_n 0, 1) := by decide +kernel
theorem dX10_sign_19 : decode cX10_sign 19 = .ok (.getfield 22, 3) := by decide +kernel
theorem dX10_sign_22 : decode cX10_sign 22 = .ok (.aload_n 0, 1) := by decide +kernel
theorem dX10_sign_23 : decode cX10_sign 23 = .ok (.getfield 176, 3) := by decide +kernel
theorem dX10_sign_26 : decode cX10_sign 26 = .ok (.iaload, 1) := by decide +kernel
theorem dX10_sign_27 : decode cX10_sign 27 = .ok (.goto 4, 3) := by decide +kernel
theorem dX10_sign_30 : decode cX10_sign 30 = .ok (.iconst 0, 1) := by decide +kernel
theorem dX10_sign_31 : decode cX10_sign 31 = .ok (.istore_n 3, 1) := by decide +kernel
theorem dX10_sign_32 : decode cX10_sign 32 = .ok (.aload_n 0, 1) := by decide +kernel
theorem dX10_sign_33 : decode cX10_sign 33 = .ok (.aload_n 0, 1) := by decide +kernel
theorem dX10_sign_34 : decode cX10_sign 34 = .ok (.getfield 179, 3) := by decide +kernel
theorem dX10_sign_37 : decode cX10_sign 37 = .ok (.ifCond .ne 12, 3) := by decide +kernel
theorem dX10_sign_40 : decode cX10_sign 40 = .ok (.iload_n 3, 1) := by decide +kernel
theorem dX10_sign_41 : decode cX10_sign 41 = .ok (.iload_n 1, 1) := by decide +kernel
theorem dX10_sign_42 : decode cX10_sign 42 = .ok (.iload_n 2, 1) := by decide +kernel
theorem dX10_sign_43 : decode cX10_sign 43 = .ok (.invokestatic 52, 3) := by decide +kernel
theorem dX10_sign_46 : decode cX10_sign 46 = .ok (.ifCond .ne 7, 3) := by decide +kernel
theorem dX10_sign_49 : decode cX10_sign 49 = .ok (.iconst 1, 1) := by decide +kernel
theorem dX10_sign_50 : decode cX10_sign 50 = .ok (.goto 4, 3) := by decide +kernel
theorem dX10_sign_53 : decode cX10_sign 53 = .ok (.iconst 0, 1) := by decide +kernel
theorem dX10_sign_54 : decode cX10_sign 54 = .ok (.putfield 179, 3) := by decide +kernel
theorem dX10_sign_57 : decode cX10_sign 57 = .ok (.aload_n 0, 1) := by decide +kernel
theorem dX10_sign_58 : decode cX10_sign 58 = .ok (.dup, 1) := by decide +kernel
theorem dX10_sign_59 : decode cX10_sign 59 = .ok (.getfield 176, 3) := by decide +kernel
theorem dX10_sign_62 : decode cX10_sign 62 = .ok (.aload_n 0, 1) := by decide +kernel
theorem dX10_sign_63 : decode cX10_sign 63 = .ok (.getfield 179, 3) := by decide +kernel
theorem dX10_sign_66 : decode cX10_sign 66 = .ok (.ifCond .eq 7, 3) := by decide +kernel
theorem dX10_sign_69 : decode cX10_sign 69 = .ok (.iconst 0, 1) := by decide +kernel
theorem dX10_sign_70 : decode cX10_sign 70 = .ok (.goto 4, 3) := by decide +kernel
theorem dX10_sign_73 : decode cX10_sign 73 = .ok (.iconst 1, 1) := by decide +kernel
theorem dX10_sign_74 : decode cX10_sign 74 = .ok (.iadd, 1) := by decide +kernel
theorem dX10_sign_75 : decode cX10_sign 75 = .ok (.putfield 176, 3) := by decide +kernel
theorem dX10_sign_78 : decode cX10_sign 78 = .ok (.iload_n 3, 1) := by decide +kernel
theorem dX10_sign_79 : decode cX10_sign 79 = .ok (.ireturn, 1) := by decide +kernel
set_option maxRecDepth 20000 in
theorem ggX10_part_X10_sign : GoodIn wsX10_part wsX10_sign := goodIn_r _ [9, 1, 2, 3, 4, 10, 11, 8, 12, 137, 138, 139, 140, 141, 142, 143, 144, 145, 146, 147, 148, 149, 150, 151, 152, 153, 154, 155, 156] (by decide +kernel) (by decide +kernel)
set_option maxRecDepth 20000 in
theorem gX10_part_X10_sign : GoodIn wsX10_part (wsV RX10 183 RX10 yX10_sign wsX10_sign) := goodIn_app (goodIn_of _ (by decide +kernel)) ggX10_part_X10_sign
set_option maxRecDepth 20000 in
theorem ggX10_part_X10_in : GoodIn wsX10_part wsX10_in := goodIn_r _ [12] (by decide +kernel) (by decide +kernel)
set_option maxRecDepth 20000 in
theorem gX10_part_X10_in : GoodIn wsX10_part (va_wsS RX10 52 yX10_in wsX10_in) := goodIn_app (goodIn_of _ (by decide +kernel)) ggX10_part_X10_in
set_option maxRecDepth 20000 in
theorem ggX10_part_X10_isPlayed : GoodIn wsX10_part wsX10_isPlayed := goodIn_r _ [16, 17, 18, 19, 20, 8, 21, 22, 23, 24, 25, 26, 27, 28, 29, 30, 31, 32, 33, 34, 35, 36, 37, 38, 39, 40, 41, 42, 43, 44, 45, 46, 47, 48, 49, 50, 51, 52, 53, 54, 55, 56, 57, 58, 59, 60, 61, 62, 63, 64, 65, 66, 67, 68, 69, 70, 71, 72, 73, 74, 75, 76, 77, 78, 79, 80, 81, 82, 83, 84, 85, 86, 87, 88, 89, 90, 91, 92, 93, 94, 95, 96, 97, 98, 99, 100, 101, 102, 103, 104, 105, 106, 107, 108, 109, 110, 111, 112, 113, 114, 115, 116, 117, 118, 119, 120, 121, 122, 123, 124, 125, 126, 127, 128, 129, 130, 131, 132, 133, 134, 135, 136, 137, 138, 139, 140, 141, 142, 143, 144, 145, 146, 147, 148, 149, 150, 151, 152, 153, 154, 155, 156] (by decide +kernel) (by decide +kernel)
set_option maxRecDepth 20000 in
theorem gX10_part_X10_isPlayed : GoodIn wsX10_part (wsV RX10 186 RX10 yX10_isPlayed wsX10_isPlayed) := goodIn_app (goodIn_of _ (by decide +kernel)) ggX10_part_X10_isPlayed
theorem dX10_part_0 : decode cX10_part 0 = .ok (.aload_n 0, 1) := by decide +kernel
theorem dX10_part_1 : decode cX10_part 1 = .ok (.getfield 176, 3) := by decide +kernel
theorem dX10_part_4 : decode cX10_part 4 = .ok (.aload_n 0, 1) := by decide +kernel
theorem dX10_part_5 : decode cX10_part 5 = .ok (.getfield 173, 3) := by decide +kernel
theorem dX10_part_8 : decode cX10_part 8 = .ok (.if_icmp .ge 22, 3) := by decide +kernel
theorem dX10_part_11 : decode cX10_part 11 = .ok (.aload_n 0, 1) := by decide +kernel
theorem dX10_part_12 : decode cX10_part 12 = .ok (.getfield 179, 3) := by decide +kernel
theorem dX10_part_15 : decode cX10_part 15 = .ok (.ifCond .ne 15, 3) := by decide +kernel
theorem dX10_part_18 : decode cX10_part 18 = .ok (.aload_n 0, 1) := by decide +kernel
theorem dX10_part_19 : decode cX10_part 19 = .ok (.getfield 22, 3) := by decide +kernel
theorem dX10_part_22 : decode cX10_part 22 = .ok (.aload_n 0, 1) := by decide +kernel
theorem dX10_part_23 : decode cX10_part 23 = .ok (.getfield 176, 3) := by decide +kernel
theorem dX10_part_26 : decode cX10_part 26 = .ok (.iaload, 1) := by decide +kernel
theorem dX10_part_27 : decode cX10_part 27 = .ok (.goto 4, 3) := by decide +kernel
theorem dX10_part_30 : decode cX10_part 30 = .ok (.iconst 0, 1) := by decide +kernel
theorem dX10_part_31 : decode cX10_part 31 = .ok (.istore_n 2, 1) := by decide +kernel
theorem dX10_part_32 : decode cX10_part 32 = .ok (.iload_n 2, 1) := by decide +kernel
theorem dX10_part_33 : decode cX10_part 33 = .ok (.bipush 114, 2) := by decide +kernel
theorem dX10_part_35 : decode cX10_part 35 = .ok (.if_icmp .eq 45, 3) := by decide +kernel
theorem dX10_part_38 : decode cX10_part 38 = .ok (.iload_n 2, 1) := by decide +kernel
theorem dX10_part_39 : decode cX10_part 39 = .ok (.bipush 109, 2) := by decide +kernel
theorem dX10_part_41 : decode cX10_part 41 = .ok (.if_icmp .eq 39, 3) := by decide +kernel
theorem dX10_part_44 : decode cX10_part 44 = .ok (.iload_n 2, 1) := by decide +kernel
theorem dX10_part_45 : decode cX10_part 45 = .ok (.bipush 98, 2) := by decide +kernel
theorem dX10_part_47 : decode cX10_part 47 = .ok (.if_icmp .eq 33, 3) := by decide +kernel
theorem dX10_part_50 : decode cX10_part 50 = .ok (.iload_n 2, 1) := by decide +kernel
theorem dX10_part_51 : decode cX10_part 51 = .ok (.bipush 101, 2) := by decide +kernel
theorem dX10_part_53 : decode cX10_part 53 = .ok (.if_icmp .eq 27, 3) := by decide +kernel
theorem dX10_part_56 : decode cX10_part 56 = .ok (.iload_n 2, 1) := by decide +kernel
theorem dX10_part_57 : decode cX10_part 57 = .ok (.bipush 120, 2) := by decide +kernel
theorem dX10_part_59 : decode cX10_part 59 = .ok (.if_icmp .eq 21, 3) := by decide +kernel
theorem dX10_part_62 : decode cX10_part 62 = .ok (.iload_n 2, 1) := by decide +kernel
theorem dX10_part_63 : decode cX10_part 63 = .ok (.bipush 116, 2) := by decide +kernel
theorem dX10_part_65 : decode cX10_part 65 = .ok (.if_icmp .eq 15, 3) := by decide +kernel
theorem dX10_part_68 : decode cX10_part 68 = .ok (.iload_n 2, 1) := by decide +kernel
theorem dX10_part_69 : decode cX10_part 69 = .ok (.bipush 100, 2) := by decide +kernel
theorem dX10_part_71 : decode cX10_part 71 = .ok (.if_icmp .eq 9, 3) := by decide +kernel
theorem dX10_part_74 : decode cX10_part 74 = .ok (.iload_n 2, 1) := by decide +kernel
theorem dX10_part_75 : decode cX10_part 75 = .ok (.bipush 110, 2) := by decide +kernel
theorem dX10_part_77 : decode cX10_part 77 = .ok (.if_icmp .ne 7, 3) := by decide +kernel
theorem dX10_part_80 : decode cX10_part 80 = .ok (.iconst 1, 1) := by decide +kernel
theorem dX10_part_81 : decode cX10_part 81 = .ok (.goto 4, 3) := by decide +kernel
theorem dX10_part_84 : decode cX10_part 84 = .ok (.iconst 0, 1) := by decide +kernel
theorem dX10_part_85 : decode cX10_part 85 = .ok (.istore_n 3, 1) := by decide +kernel
theorem dX10_part_86 : decode cX10_part 86 = .ok (.aload_n 0, 1) := by decide +kernel
theorem dX10_part_87 : decode cX10_part 87 = .ok (.aload_n 0, 1) := by decide +kernel
theorem dX10_part_88 : decode cX10_part 88 = .ok (.getfield 179, 3) := by decide +kernel
theorem dX10_part_91 : decode cX10_part 91 = .ok (.ifCond .ne 7, 3) := by decide +kernel
theorem dX10_part_94 : decode cX10_part 94 = .ok (.iload_n 3, 1) := by decide +kernel
theorem dX10_part_95 : decode cX10_part 95 = .ok (.ifCond .ne 7, 3) := by decide +kernel
theorem dX10_part_98 : decode cX10_part 98 = .ok (.iconst 1, 1) := by decide +kernel
theorem dX10_part_99 : decode cX10_part 99 = .ok (.goto 4, 3) := by decide +kernel
theorem dX10_part_102 : decode cX10_part 102 = .ok (.iconst 0, 1) := by decide +kernel
theorem dX10_part_103 : decode cX10_part 103 = .ok (.putfield 179, 3) := by decide +kernel
theorem dX10_part_106 : decode cX10_part 106 = .ok (.aload_n 0, 1) := by decide +kernel
theorem dX10_part_107 : decode cX10_part 107 = .ok (.dup, 1) := by decide +kernel
theorem dX10_part_108 : decode cX10_part 108 = .ok (.getfield 176, 3) := by decide +kernel
theorem dX10_part_111 : decode cX10_part 111 = .ok (.aload_n 0, 1) := by decide +kernel
theorem dX10_part_112 : decode cX10_part 112 = .ok (.getfield 179, 3) := by decide +kernel
theorem dX10_part_115 : decode cX10_part 115 = .ok (.ifCond .eq 7, 3) := by decide +kernel
theorem dX10_part_118 : decode cX10_part 118 = .ok (.iconst 0, 1) := by decide +kernel
theorem dX10_part_119 : decode cX10_part 119 = .ok (.goto 4, 3) := by decide +kernel
theorem dX10_part_122 : decode cX10_part 122 = .ok (.iconst 1, 1) := by decide +kernel
theorem dX10_part_123 : decode cX10_part 123 = .ok (.iadd, 1) := by decide +kernel
theorem dX10_part_124 : decode cX10_part 124 = .ok (.putfield 176, 3) := by decide +kernel
theorem dX10_part_127 : decode cX10_part 127 = .ok (.iconst (-1), 1) := by decide +kernel
theorem dX10_part_128 : decode cX10_part 128 = .ok (.istore 4, 2) := by decide +kernel
theorem dX10_part_130 : decode cX10_part 130 = .ok (.iconst 0, 1) := by decide +kernel
theorem dX10_part_131 : decode cX10_part 131 = .ok (.istore 5, 2) := by decide +kernel
theorem dX10_part_133 : decode cX10_part 133 = .ok (.iload_n 2, 1) := by decide +kernel
theorem dX10_part_134 : decode cX10_part 134 = .ok (.bipush 114, 2) := by decide +kernel
theorem dX10_part_136 : decode cX10_part 136 = .ok (.if_icmp .ne 19, 3) := by decide +kernel
theorem dX10_part_139 : decode cX10_part 139 = .ok (.aload_n 0, 1) := by decide +kernel
theorem dX10_part_140 : decode cX10_part 140 = .ok (.bipush 49, 2) := by decide +kernel
theorem dX10_part_142 : decode cX10_part 142 = .ok (.bipush 54, 2) := by decide +kernel
theorem dX10_part_144 : decode cX10_part 144 = .ok (.invokevirtual 183, 3) := by decide +kernel
theorem dX10_part_147 : decode cX10_part 147 = .ok (.bipush 48, 2) := by decide +kernel
theorem dX10_part_149 : decode cX10_part 149 = .ok (.isub, 1) := by decide +kernel
theorem dX10_part_150 : decode cX10_part 150 = .ok (.istore 4, 2) := by decide +kernel
theorem dX10_part_152 : decode cX10_part 152 = .ok (.goto 81, 3) := by decide +kernel
theorem dX10_part_155 : decode cX10_part 155 = .ok (.iload_n 2, 1) := by decide +kernel
theorem dX10_part_156 : decode cX10_part 156 = .ok (.bipush 109, 2) := by decide +kernel
theorem dX10_part_158 : decode cX10_part 158 = .ok (.if_icmp .ne 75, 3) := by decide +kernel
theorem dX10_part_161 : decode cX10_part 161 = .ok (.aload_n 0, 1) := by decide +kernel
theorem dX10_part_162 : decode cX10_part 162 = .ok (.bipush 48, 2) := by decide +kernel
theorem dX10_part_164 : decode cX10_part 164 = .ok (.bipush 57, 2) := by decide +kernel
theorem dX10_part_166 : decode cX10_part 166 = .ok (.invokevirtual 183, 3) := by decide +kernel
theorem dX10_part_169 : decode cX10_part 169 = .ok (.bipush 48, 2) := by decide +kernel
theorem dX10_part_171 : decode cX10_part 171 = .ok (.isub, 1) := by decide +kernel
theorem dX10_part_172 : decode cX10_part 172 = .ok (.istore 4, 2) := by decide +kernel
theorem dX10_part_174 : decode cX10_part 174 = .ok (.iload 4, 2) := by decide +kernel
theorem dX10_part_176 : decode cX10_part 176 = .ok (.iconst 1, 1) := by decide +kernel
theorem dX10_part_177 : decode cX10_part 177 = .ok (.if_icmp .ne 56, 3) := by decide +kernel
theorem dX10_part_180 : decode cX10_part 180 = .ok (.aload_n 0, 1) := by decide +kernel
theorem dX10_part_181 : decode cX10_part 181 = .ok (.getfield 179, 3) := by decide +kernel
theorem dX10_part_184 : decode cX10_part 184 = .ok (.ifCond .ne 49, 3) := by decide +kernel
theorem dX10_part_187 : decode cX10_part 187 = .ok (.aload_n 0, 1) := by decide +kernel
theorem dX10_part_188 : decode cX10_part 188 = .ok (.getfield 176, 3) := by decide +kernel
theorem dX10_part_191 : decode cX10_part 191 = .ok (.aload_n 0, 1) := by decide +kernel
theorem dX10_part_192 : decode cX10_part 192 = .ok (.getfield 173, 3) := by decide +kernel
theorem dX10_part_195 : decode cX10_part 195 = .ok (.if_icmp .ge 38, 3) := by decide +kernel
theorem dX10_part_198 : decode cX10_part 198 = .ok (.aload_n 0, 1) := by decide +kernel
theorem dX10_part_199 : decode cX10_part 199 = .ok (.getfield 22, 3) := by decide +kernel
theorem dX10_part_202 : decode cX10_part 202 = .ok (.aload_n 0, 1) := by decide +kernel
theorem dX10_part_203 : decode cX10_part 203 = .ok (.getfield 176, 3) := by decide +kernel
theorem dX10_part_206 : decode cX10_part 206 = .ok (.iaload, 1) := by decide +kernel
theorem dX10_part_207 : decode cX10_part 207 = .ok (.bipush 48, 2) := by decide +kernel
theorem dX10_part_209 : decode cX10_part 209 = .ok (.bipush 53, 2) := by decide +kernel
theorem dX10_part_211 : decode cX10_part 211 = .ok (.invokestatic 52, 3) := by decide +kernel
theorem dX10_part_214 : decode cX10_part 214 = .ok (.ifCond .eq 19, 3) := by decide +kernel
theorem dX10_part_217 : decode cX10_part 217 = .ok (.bipush 10, 2) := by decide +kernel
theorem dX10_part_219 : decode cX10_part 219 = .ok (.aload_n 0, 1) := by decide +kernel
theorem dX10_part_220 : decode cX10_part 220 = .ok (.bipush 48, 2) := by decide +kernel
theorem dX10_part_222 : decode cX10_part 222 = .ok (.bipush 53, 2) := by decide +kernel
theorem dX10_part_224 : decode cX10_part 224 = .ok (.invokevirtual 183, 3) := by decide +kernel
theorem dX10_part_227 : decode cX10_part 227 = .ok (.iadd, 1) := by decide +kernel
theorem dX10_part_228 : decode cX10_part 228 = .ok (.bipush 48, 2) := by decide +kernel
theorem dX10_part_230 : decode cX10_part 230 = .ok (.isub, 1) := by decide +kernel
theorem dX10_part_231 : decode cX10_part 231 = .ok (.istore 4, 2) := by decide +kernel
theorem dX10_part_233 : decode cX10_part 233 = .ok (.iload_n 2, 1) := by decide +kernel
theorem dX10_part_234 : decode cX10_part 234 = .ok (.bipush 109, 2) := by decide +kernel
theorem dX10_part_236 : decode cX10_part 236 = .ok (.if_icmp .eq 9, 3) := by decide +kernel
theorem dX10_part_239 : decode cX10_part 239 = .ok (.iload_n 2, 1) := by decide +kernel
theorem dX10_part_240 : decode cX10_part 240 = .ok (.bipush 98, 2) := by decide +kernel
theorem dX10_part_242 : decode cX10_part 242 = .ok (.if_icmp .ne 14, 3) := by decide +kernel
theorem dX10_part_245 : decode cX10_part 245 = .ok (.aload_n 0, 1) := by decide +kernel
theorem dX10_part_246 : decode cX10_part 246 = .ok (.bipush 46, 2) := by decide +kernel
theorem dX10_part_248 : decode cX10_part 248 = .ok (.bipush 46, 2) := by decide +kernel
theorem dX10_part_250 : decode cX10_part 250 = .ok (.invokevirtual 183, 3) := by decide +kernel
theorem dX10_part_253 : decode cX10_part 253 = .ok (.goto 4, 3) := by decide +kernel
theorem dX10_part_256 : decode cX10_part 256 = .ok (.iconst 0, 1) := by decide +kernel
theorem dX10_part_257 : decode cX10_part 257 = .ok (.istore 6, 2) := by decide +kernel
theorem dX10_part_259 : decode cX10_part 259 = .ok (.iload_n 2, 1) := by decide +kernel
theorem dX10_part_260 : decode cX10_part 260 = .ok (.bipush 114, 2) := by decide +kernel
theorem dX10_part_262 : decode cX10_part 262 = .ok (.if_icmp .eq 15, 3) := by decide +kernel
theorem dX10_part_265 : decode cX10_part 265 = .ok (.iload_n 2, 1) := by decide +kernel
theorem dX10_part_266 : decode cX10_part 266 = .ok (.bipush 109, 2) := by decide +kernel
theorem dX10_part_268 : decode cX10_part 268 = .ok (.if_icmp .eq 9, 3) := by decide +kernel
theorem dX10_part_271 : decode cX10_part 271 = .ok (.iload_n 2, 1) := by decide +kernel
theorem dX10_part_272 : decode cX10_part 272 = .ok (.bipush 98, 2) := by decide +kernel
theorem dX10_part_274 : decode cX10_part 274 = .ok (.if_icmp .ne 16, 3) := by decide +kernel
theorem dX10_part_277 : decode cX10_part 277 = .ok (.aload_n 0, 1) := by decide +kernel
theorem dX10_part_278 : decode cX10_part 278 = .ok (.bipush 49, 2) := by decide +kernel
theorem dX10_part_280 : decode cX10_part 280 = .ok (.bipush 54, 2) := by decide +kernel
theorem dX10_part_282 : decode cX10_part 282 = .ok (.invokevirtual 183, 3) := by decide +kernel
theorem dX10_part_285 : decode cX10_part 285 = .ok (.bipush 48, 2) := by decide +kernel
theorem dX10_part_287 : decode cX10_part 287 = .ok (.isub, 1) := by decide +kernel
theorem dX10_part_288 : decode cX10_part 288 = .ok (.istore 5, 2) := by decide +kernel
theorem dX10_part_290 : decode cX10_part 290 = .ok (.iload_n 1, 1) := by decide +kernel
theorem dX10_part_291 : decode cX10_part 291 = .ok (.ifCond .eq 15, 3) := by decide +kernel
theorem dX10_part_294 : decode cX10_part 294 = .ok (.aload_n 0, 1) := by decide +kernel
theorem dX10_part_295 : decode cX10_part 295 = .ok (.iload_n 2, 1) := by decide +kernel
theorem dX10_part_296 : decode cX10_part 296 = .ok (.iload 4, 2) := by decide +kernel
theorem dX10_part_298 : decode cX10_part 298 = .ok (.iload 5, 2) := by decide +kernel
theorem dX10_part_300 : decode cX10_part 300 = .ok (.invokevirtual 186, 3) := by decide +kernel
theorem dX10_part_303 : decode cX10_part 303 = .ok (.ifCond .eq 7, 3) := by decide +kernel
theorem dX10_part_306 : decode cX10_part 306 = .ok (.iconst 1, 1) := by decide +kernel
theorem dX10_part_307 : decode cX10_part 307 = .ok (.goto 4, 3) := by decide +kernel
theorem dX10_part_310 : decode cX10_part 310 = .ok (.iconst 0, 1) := by decide +kernel
theorem dX10_part_311 : decode cX10_part 311 = .ok (.ireturn, 1) := by decide +kernel
set_option maxRecDepth 20000 in
theorem ggX10_isPlayed_X10_why : GoodIn wsX10_isPlayed wsX10_why := goodIn_r _ [6, 1, 7, 8, 9, 5, 10, 11, 12, 13, 14, 15, 16, 17, 18, 19, 20, 21, 22, 23, 24, 25, 26, 27, 28, 29, 30, 31, 32, 33, 34, 35, 36, 37, 38, 39, 40, 41, 42, 43, 44, 45, 46, 47, 48, 49, 50, 51, 52, 53, 54, 55, 56, 57, 58, 59, 60, 61, 62, 63, 64, 65, 66, 67, 68, 69, 70, 71, 72, 73, 122, 123, 124, 125, 126, 127, 128, 129, 130, 131, 132, 133, 134, 135, 136, 137, 138, 139, 140, 141] (by decide +kernel) (by decide +kernel)
set_option maxRecDepth 20000 in
theorem gX10_isPlayed_X10_why : GoodIn wsX10_isPlayed (wsV RX10 137 RX10 yX10_why wsX10_why) := goodIn_app (goodIn_of _ (by decide +kernel)) ggX10_isPlayed_X10_why
set_option maxRecDepth 20000 in
theorem ggX10_isPlayed_X10_canEnd : GoodIn wsX10_isPlayed wsX10_canEnd := goodIn_r _ [77, 1, 33, 34, 35, 5, 36, 37, 38, 39, 40, 41, 42, 43, 44, 11, 12, 13, 14, 15, 16, 17, 18, 19, 20, 21, 22, 23, 24, 25, 26, 27, 28, 29, 30, 31, 32, 45, 46, 47, 48, 49, 50, 51, 52, 53, 54, 55, 56, 57, 58, 59, 60, 61, 62, 63, 64, 65, 66, 67, 68, 69, 122, 123, 124, 125, 126, 127, 128, 129, 130, 131, 132, 133, 134, 135, 136, 137, 138, 139, 140, 141] (by decide +kernel) (by decide +kernel)
set_option maxRecDepth 20000 in
theorem gX10_isPlayed_X10_canEnd : GoodIn wsX10_isPlayed (wsV RX10 143 RX10 yX10_canEnd wsX10_canEnd) := goodIn_app (goodIn_of _ (by decide +kernel)) ggX10_isPlayed_X10_canEnd
set_option maxRecDepth 20000 in
theorem ggX10_isPlayed_X10_canOffer : GoodIn wsX10_isPlayed wsX10_canOffer := goodIn_r _ [81, 1, 122, 123, 124, 125, 126, 127, 128, 129, 130, 131, 132, 133, 134, 135, 136, 137, 138, 139, 140, 141] (by decide +kernel) (by decide +kernel)
set_option maxRecDepth 20000 in
theorem gX10_isPlayed_X10_canOffer : GoodIn wsX10_isPlayed (wsV RX10 158 RX10 yX10_canOffer wsX10_canOffer) := goodIn_app (goodIn_of _ (by decide +kernel)) ggX10_isPlayed_X10_canOffer
set_option maxRecDepth 20000 in
theorem ggX10_isPlayed_X10_steps : GoodIn wsX10_isPlayed wsX10_steps := goodIn_r _ [85, 1, 54, 55, 56, 5, 57, 19, 20, 21, 15, 16, 17, 18, 58, 59, 60, 61, 86, 87, 88, 89, 90, 91, 92, 93, 122, 123, 124, 125, 126, 127, 128, 129, 130, 131, 132, 133, 134, 135, 136, 137, 138, 139, 140, 141] (by decide +kernel) (by decide +kernel)
set_option maxRecDepth 20000 in
theorem gX10_isPlayed_X10_steps : GoodIn wsX10_isPlayed (wsV RX10 140 RX10 yX10_steps wsX10_steps) := goodIn_app (goodIn_of _ (by decide +kernel)) ggX10_isPlayed_X10_steps
set_option maxRecDepth 20000 in
theorem ggX10_isPlayed_X10_rolls : GoodIn wsX10_isPlayed wsX10_rolls := goodIn_r _ [97, 1, 122, 123, 124, 125, 126, 127, 128, 129, 130, 131, 132, 133, 134, 135, 136, 137, 138, 139, 140, 141] (by decide +kernel) (by decide +kernel)
set_option maxRecDepth 20000 in
theorem gX10_isPlayed_X10_rolls : GoodIn wsX10_isPlayed (wsV RX10 131 RX10 yX10_rolls wsX10_rolls) := goodIn_app (goodIn_of _ (by decide +kernel)) ggX10_isPlayed_X10_rolls
set_option maxRecDepth 20000 in
theorem ggX10_isPlayed_X10_ends : GoodIn wsX10_isPlayed wsX10_ends := goodIn_r _ [101, 1, 90, 91, 92, 5, 93, 122, 123, 124, 125, 126, 127, 128, 129, 130, 131, 132, 133, 134, 135, 136, 137, 138, 139, 140, 141] (by decide +kernel) (by decide +kernel)
set_option maxRecDepth 20000 in
theorem gX10_isPlayed_X10_ends : GoodIn wsX10_isPlayed (wsV RX10 146 RX10 yX10_ends wsX10_ends) := goodIn_app (goodIn_of _ (by decide +kernel)) ggX10_isPlayed_X10_ends
set_option maxRecDepth 20000 in
theorem ggX10_isPlayed_X10_offers : GoodIn wsX10_isPlayed wsX10_offers := goodIn_r _ [105, 1, 122, 123, 124, 125, 126, 127, 128, 129, 130, 131, 132, 133, 134, 135, 136, 137, 138, 139, 140, 141] (by decide +kernel) (by decide +kernel)
set_option maxRecDepth 20000 in
theorem gX10_isPlayed_X10_offers : GoodIn wsX10_isPlayed (wsV RX10 161 RX10 yX10_offers wsX10_offers) := goodIn_app (goodIn_of _ (by decide +kernel)) ggX10_isPlayed_X10_offers
set_option maxRecDepth 20000 in
theorem ggX10_isPlayed_X10_doubles : GoodIn wsX10_isPlayed wsX10_doubles := goodIn_r _ [109, 1, 122, 123, 124, 125, 126, 127, 128, 129, 130, 131, 132, 133, 134, 135, 136, 137, 138, 139, 140, 141] (by decide +kernel) (by decide +kernel)
set_option maxRecDepth 20000 in
theorem gX10_isPlayed_X10_doubles : GoodIn wsX10_isPlayed (wsV RX10 164 RX10 yX10_doubles wsX10_doubles) := goodIn_app (goodIn_of _ (by decide +kernel)) ggX10_isPlayed_X10_doubles
set_option maxRecDepth 20000 in
theorem ggX10_isPlayed_X10_drops : GoodIn wsX10_isPlayed wsX10_drops := goodIn_r _ [113, 1, 122, 123, 124, 125, 126, 127, 128, 129, 130, 131, 132, 133, 134, 135, 136, 137, 138, 139, 140, 141] (by decide +kernel) (by decide +kernel)
set_option maxRecDepth 20000 in
theorem gX10_isPlayed_X10_drops : GoodIn wsX10_isPlayed (wsV RX10 167 RX10 yX10_drops wsX10_drops) := goodIn_app (goodIn_of _ (by decide +kernel)) ggX10_isPlayed_X10_drops
set_option maxRecDepth 20000 in
theorem ggX10_isPlayed_X10_anew : GoodIn wsX10_isPlayed wsX10_anew := goodIn_r _ [117, 1, 118, 119, 120, 5, 121, 58, 59, 60, 61, 90, 91, 92, 93, 122, 123, 124, 125, 126, 127, 128, 129, 130, 131, 132, 133, 134, 135, 136, 137, 138, 139, 140, 141] (by decide +kernel) (by decide +kernel)
set_option maxRecDepth 20000 in
theorem gX10_isPlayed_X10_anew : GoodIn wsX10_isPlayed (wsV RX10 170 RX10 yX10_anew wsX10_anew) := goodIn_app (goodIn_of _ (by decide +kernel)) ggX10_isPlayed_X10_anew
theorem dX10_isPlayed_0 : decode cX10_isPlayed 0 = .ok (.iload_n 1, 1) := by decide +kernel
theorem dX10_isPlayed_1 : decode cX10_isPlayed 1 = .ok (.bipush 109, 2) := by decide +kernel
theorem dX10_isPlayed_3 : decode cX10_isPlayed 3 = .ok (.if_icmp .eq 9, 3) := by decide +kernel
theorem dX10_isPlayed_6 : decode cX10_isPlayed 6 = .ok (.iload_n 1, 1) := by decide +kernel
theorem dX10_isPlayed_7 : decode cX10_isPlayed 7 = .ok (.bipush 98, 2) := by decide +kernel
theorem dX10_isPlayed_9 : decode cX10_isPlayed 9 = .ok (.if_icmp .ne 7, 3) := by decide +kernel
theorem dX10_isPlayed_12 : decode cX10_isPlayed 12 = .ok (.iconst 1, 1) := by decide +kernel
theorem dX10_isPlayed_13 : decode cX10_isPlayed 13 = .ok (.goto 4, 3) := by decide +kernel
theorem dX10_isPlayed_16 : decode cX10_isPlayed 16 = .ok (.iconst 0, 1) := by decide +kernel
theorem dX10_isPlayed_17 : decode cX10_isPlayed 17 = .ok (.istore 4, 2) := by decide +kernel
theorem dX10_isPlayed_19 : decode cX10_isPlayed 19 = .ok (.iload_n 1, 1) := by decide +kernel
theorem dX10_isPlayed_20 : decode cX10_isPlayed 20 = .ok (.bipush 114, 2) := by decide +kernel
theorem dX10_isPlayed_22 : decode cX10_isPlayed 22 = .ok (.if_icmp .ne 21, 3) := by decide +kernel
theorem dX10_isPlayed_25 : decode cX10_isPlayed 25 = .ok (.aload_n 0, 1) := by decide +kernel
theorem dX10_isPlayed_26 : decode cX10_isPlayed 26 = .ok (.getfield 7, 3) := by decide +kernel
theorem dX10_isPlayed_29 : decode cX10_isPlayed 29 = .ok (.bipush 37, 2) := by decide +kernel
theorem dX10_isPlayed_31 : decode cX10_isPlayed 31 = .ok (.iaload, 1) := by decide +kernel
theorem dX10_isPlayed_32 : decode cX10_isPlayed 32 = .ok (.ifCond .ne 7, 3) := by decide +kernel
theorem dX10_isPlayed_35 : decode cX10_isPlayed 35 = .ok (.iconst 1, 1) := by decide +kernel
theorem dX10_isPlayed_36 : decode cX10_isPlayed 36 = .ok (.goto 81, 3) := by decide +kernel
theorem dX10_isPlayed_39 : decode cX10_isPlayed 39 = .ok (.iconst 0, 1) := by decide +kernel
theorem dX10_isPlayed_40 : decode cX10_isPlayed 40 = .ok (.goto 77, 3) := by decide +kernel
theorem dX10_isPlayed_43 : decode cX10_isPlayed 43 = .ok (.iload 4, 2) := by decide +kernel
theorem dX10_isPlayed_45 : decode cX10_isPlayed 45 = .ok (.ifCond .eq 20, 3) := by decide +kernel
theorem dX10_isPlayed_48 : decode cX10_isPlayed 48 = .ok (.aload_n 0, 1) := by decide +kernel
theorem dX10_isPlayed_49 : decode cX10_isPlayed 49 = .ok (.iload_n 2, 1) := by decide +kernel
theorem dX10_isPlayed_50 : decode cX10_isPlayed 50 = .ok (.iload_n 3, 1) := by decide +kernel
theorem dX10_isPlayed_51 : decode cX10_isPlayed 51 = .ok (.invokevirtual 137, 3) := by decide +kernel
theorem dX10_isPlayed_54 : decode cX10_isPlayed 54 = .ok (.ifCond .ne 7, 3) := by decide +kernel
theorem dX10_isPlayed_57 : decode cX10_isPlayed 57 = .ok (.iconst 1, 1) := by decide +kernel
theorem dX10_isPlayed_58 : decode cX10_isPlayed 58 = .ok (.goto 59, 3) := by decide +kernel
theorem dX10_isPlayed_61 : decode cX10_isPlayed 61 = .ok (.iconst 0, 1) := by decide +kernel
theorem dX10_isPlayed_62 : decode cX10_isPlayed 62 = .ok (.goto 55, 3) := by decide +kernel
theorem dX10_isPlayed_65 : decode cX10_isPlayed 65 = .ok (.iload_n 1, 1) := by decide +kernel
theorem dX10_isPlayed_66 : decode cX10_isPlayed 66 = .ok (.bipush 101, 2) := by decide +kernel
theorem dX10_isPlayed_68 : decode cX10_isPlayed 68 = .ok (.if_icmp .ne 10, 3) := by decide +kernel
theorem dX10_isPlayed_71 : decode cX10_isPlayed 71 = .ok (.aload_n 0, 1) := by decide +kernel
theorem dX10_isPlayed_72 : decode cX10_isPlayed 72 = .ok (.invokevirtual 143, 3) := by decide +kernel
theorem dX10_isPlayed_75 : decode cX10_isPlayed 75 = .ok (.goto 42, 3) := by decide +kernel
theorem dX10_isPlayed_78 : decode cX10_isPlayed 78 = .ok (.iload_n 1, 1) := by decide +kernel
theorem dX10_isPlayed_79 : decode cX10_isPlayed 79 = .ok (.bipush 120, 2) := by decide +kernel
theorem dX10_isPlayed_81 : decode cX10_isPlayed 81 = .ok (.if_icmp .ne 10, 3) := by decide +kernel
theorem dX10_isPlayed_84 : decode cX10_isPlayed 84 = .ok (.aload_n 0, 1) := by decide +kernel
theorem dX10_isPlayed_85 : decode cX10_isPlayed 85 = .ok (.invokevirtual 158, 3) := by decide +kernel
theorem dX10_isPlayed_88 : decode cX10_isPlayed 88 = .ok (.goto 29, 3) := by decide +kernel
theorem dX10_isPlayed_91 : decode cX10_isPlayed 91 = .ok (.aload_n 0, 1) := by decide +kernel
theorem dX10_isPlayed_92 : decode cX10_isPlayed 92 = .ok (.getfield 7, 3) := by decide +kernel
theorem dX10_isPlayed_95 : decode cX10_isPlayed 95 = .ok (.bipush 37, 2) := by decide +kernel
theorem dX10_isPlayed_97 : decode cX10_isPlayed 97 = .ok (.iaload, 1) := by decide +kernel
theorem dX10_isPlayed_98 : decode cX10_isPlayed 98 = .ok (.iload_n 1, 1) := by decide +kernel
theorem dX10_isPlayed_99 : decode cX10_isPlayed 99 = .ok (.bipush 110, 2) := by decide +kernel
theorem dX10_isPlayed_101 : decode cX10_isPlayed 101 = .ok (.if_icmp .ne 7, 3) := by decide +kernel
theorem dX10_isPlayed_104 : decode cX10_isPlayed 104 = .ok (.iconst 3, 1) := by decide +kernel
theorem dX10_isPlayed_105 : decode cX10_isPlayed 105 = .ok (.goto 4, 3) := by decide +kernel
theorem dX10_isPlayed_108 : decode cX10_isPlayed 108 = .ok (.iconst 2, 1) := by decide +kernel
theorem dX10_isPlayed_109 : decode cX10_isPlayed 109 = .ok (.if_icmp .ne 7, 3) := by decide +kernel
theorem dX10_isPlayed_112 : decode cX10_isPlayed 112 = .ok (.iconst 1, 1) := by decide +kernel
theorem dX10_isPlayed_113 : decode cX10_isPlayed 113 = .ok (.goto 4, 3) := by decide +kernel
theorem dX10_isPlayed_116 : decode cX10_isPlayed 116 = .ok (.iconst 0, 1) := by decide +kernel
theorem dX10_isPlayed_117 : decode cX10_isPlayed 117 = .ok (.istore 5, 2) := by decide +kernel
theorem dX10_isPlayed_119 : decode cX10_isPlayed 119 = .ok (.iload 5, 2) := by decide +kernel
theorem dX10_isPlayed_121 : decode cX10_isPlayed 121 = .ok (.ifCond .eq 106, 3) := by decide +kernel
theorem dX10_isPlayed_124 : decode cX10_isPlayed 124 = .ok (.iload 4, 2) := by decide +kernel
theorem dX10_isPlayed_126 : decode cX10_isPlayed 126 = .ok (.ifCond .eq 16, 3) := by decide +kernel
theorem dX10_isPlayed_129 : decode cX10_isPlayed 129 = .ok (.aload_n 0, 1) := by decide +kernel
theorem dX10_isPlayed_130 : decode cX10_isPlayed 130 = .ok (.iload_n 2, 1) := by decide +kernel
theorem dX10_isPlayed_131 : decode cX10_isPlayed 131 = .ok (.iload_n 3, 1) := by decide +kernel
theorem dX10_isPlayed_132 : decode cX10_isPlayed 132 = .ok (.invokevirtual 140, 3) := by decide +kernel
theorem dX10_isPlayed_135 : decode cX10_isPlayed 135 = .ok (.ifCond .eq 7, 3) := by decide +kernel
theorem dX10_isPlayed_138 : decode cX10_isPlayed 138 = .ok (.iconst 1, 1) := by decide +kernel
theorem dX10_isPlayed_139 : decode cX10_isPlayed 139 = .ok (.goto 4, 3) := by decide +kernel
theorem dX10_isPlayed_142 : decode cX10_isPlayed 142 = .ok (.iconst 0, 1) := by decide +kernel
theorem dX10_isPlayed_143 : decode cX10_isPlayed 143 = .ok (.istore 6, 2) := by decide +kernel
theorem dX10_isPlayed_145 : decode cX10_isPlayed 145 = .ok (.iload 4, 2) := by decide +kernel
theorem dX10_isPlayed_147 : decode cX10_isPlayed 147 = .ok (.ifCond .eq 7, 3) := by decide +kernel
theorem dX10_isPlayed_150 : decode cX10_isPlayed 150 = .ok (.iconst 0, 1) := by decide +kernel
theorem dX10_isPlayed_151 : decode cX10_isPlayed 151 = .ok (.goto 74, 3) := by decide +kernel
theorem dX10_isPlayed_154 : decode cX10_isPlayed 154 = .ok (.iload_n 1, 1) := by decide +kernel
theorem dX10_isPlayed_155 : decode cX10_isPlayed 155 = .ok (.bipush 114, 2) := by decide +kernel
theorem dX10_isPlayed_157 : decode cX10_isPlayed 157 = .ok (.if_icmp .ne 12, 3) := by decide +kernel
theorem dX10_isPlayed_160 : decode cX10_isPlayed 160 = .ok (.aload_n 0, 1) := by decide +kernel
theorem dX10_isPlayed_161 : decode cX10_isPlayed 161 = .ok (.iload_n 2, 1) := by decide +kernel
theorem dX10_isPlayed_162 : decode cX10_isPlayed 162 = .ok (.iload_n 3, 1) := by decide +kernel
theorem dX10_isPlayed_163 : decode cX10_isPlayed 163 = .ok (.invokevirtual 131, 3) := by decide +kernel
theorem dX10_isPlayed_166 : decode cX10_isPlayed 166 = .ok (.goto 59, 3) := by decide +kernel
theorem dX10_isPlayed_169 : decode cX10_isPlayed 169 = .ok (.iload_n 1, 1) := by decide +kernel
theorem dX10_isPlayed_170 : decode cX10_isPlayed 170 = .ok (.bipush 101, 2) := by decide +kernel
theorem dX10_isPlayed_172 : decode cX10_isPlayed 172 = .ok (.if_icmp .ne 10, 3) := by decide +kernel
theorem dX10_isPlayed_175 : decode cX10_isPlayed 175 = .ok (.aload_n 0, 1) := by decide +kernel
theorem dX10_isPlayed_176 : decode cX10_isPlayed 176 = .ok (.invokevirtual 146, 3) := by decide +kernel
theorem dX10_isPlayed_179 : decode cX10_isPlayed 179 = .ok (.goto 46, 3) := by decide +kernel
theorem dX10_isPlayed_182 : decode cX10_isPlayed 182 = .ok (.iload_n 1, 1) := by decide +kernel
theorem dX10_isPlayed_183 : decode cX10_isPlayed 183 = .ok (.bipush 120, 2) := by decide +kernel
theorem dX10_isPlayed_185 : decode cX10_isPlayed 185 = .ok (.if_icmp .ne 10, 3) := by decide +kernel
theorem dX10_isPlayed_188 : decode cX10_isPlayed 188 = .ok (.aload_n 0, 1) := by decide +kernel
theorem dX10_isPlayed_189 : decode cX10_isPlayed 189 = .ok (.invokevirtual 161, 3) := by decide +kernel
theorem dX10_isPlayed_192 : decode cX10_isPlayed 192 = .ok (.goto 33, 3) := by decide +kernel
theorem dX10_isPlayed_195 : decode cX10_isPlayed 195 = .ok (.iload_n 1, 1) := by decide +kernel
theorem dX10_isPlayed_196 : decode cX10_isPlayed 196 = .ok (.bipush 116, 2) := by decide +kernel
theorem dX10_isPlayed_198 : decode cX10_isPlayed 198 = .ok (.if_icmp .ne 10, 3) := by decide +kernel
theorem dX10_isPlayed_201 : decode cX10_isPlayed 201 = .ok (.aload_n 0, 1) := by decide +kernel
theorem dX10_isPlayed_202 : decode cX10_isPlayed 202 = .ok (.invokevirtual 164, 3) := by decide +kernel
theorem dX10_isPlayed_205 : decode cX10_isPlayed 205 = .ok (.goto 20, 3) := by decide +kernel
theorem dX10_isPlayed_208 : decode cX10_isPlayed 208 = .ok (.iload_n 1, 1) := by decide +kernel
theorem dX10_isPlayed_209 : decode cX10_isPlayed 209 = .ok (.bipush 100, 2) := by decide +kernel
theorem dX10_isPlayed_211 : decode cX10_isPlayed 211 = .ok (.if_icmp .ne 10, 3) := by decide +kernel
theorem dX10_isPlayed_214 : decode cX10_isPlayed 214 = .ok (.aload_n 0, 1) := by decide +kernel
theorem dX10_isPlayed_215 : decode cX10_isPlayed 215 = .ok (.invokevirtual 167, 3) := by decide +kernel
theorem dX10_isPlayed_218 : decode cX10_isPlayed 218 = .ok (.goto 7, 3) := by decide +kernel
theorem dX10_isPlayed_221 : decode cX10_isPlayed 221 = .ok (.aload_n 0, 1) := by decide +kernel
theorem dX10_isPlayed_222 : decode cX10_isPlayed 222 = .ok (.invokevirtual 170, 3) := by decide +kernel
theorem dX10_isPlayed_225 : decode cX10_isPlayed 225 = .ok (.istore 7, 2) := by decide +kernel
theorem dX10_isPlayed_227 : decode cX10_isPlayed 227 = .ok (.iload 5, 2) := by decide +kernel
theorem dX10_isPlayed_229 : decode cX10_isPlayed 229 = .ok (.ireturn, 1) := by decide +kernel
set_option maxRecDepth 20000 in
theorem ggX10_go_X10_part : GoodIn wsX10_go wsX10_part := goodIn_r _ [9, 1, 4, 2, 10, 11, 12, 13, 8, 14, 15, 16, 17, 18, 19, 20, 21, 22, 23, 24, 25, 26, 27, 28, 29, 30, 31, 32, 33, 34, 35, 36, 37, 38, 39, 40, 41, 42, 43, 44, 45, 46, 47, 48, 49, 50, 51, 52, 53, 54, 55, 56, 57, 58, 59, 60, 61, 62, 63, 64, 65, 66, 67, 68, 69, 70, 71, 72, 73, 74, 75, 76, 77, 78, 79, 80, 81, 82, 83, 84, 85, 86, 87, 88, 89, 90, 91, 92, 93, 94, 95, 96, 97, 98, 99, 100, 101, 102, 103, 104, 105, 106, 107, 108, 109, 110, 111, 112, 113, 114, 115, 116, 117, 118, 119, 120, 121, 122, 123, 124, 125, 126, 127, 128, 129, 130, 131, 132, 133, 134, 135, 136, 137, 138, 139, 140, 141, 142, 143, 144, 145, 146, 147, 148, 149, 150, 151, 152, 153, 154, 155, 156, 157, 158, 159, 160, 161] (by decide +kernel) (by decide +kernel)
set_option maxRecDepth 20000 in
theorem gX10_go_X10_part : GoodIn wsX10_go (wsV RX10 192 RX10 yX10_part wsX10_part) := goodIn_app (goodIn_of _ (by decide +kernel)) ggX10_go_X10_part
set_option maxRecDepth 20000 in
theorem ggX10_go_X10_sign : GoodIn wsX10_go wsX10_sign := goodIn_r _ [14, 1, 4, 2, 10, 15, 16, 8, 17, 142, 143, 144, 145, 146, 147, 148, 149, 150, 151, 152, 153, 154, 155, 156, 157, 158, 159, 160, 161] (by decide +kernel) (by decide +kernel)
set_option maxRecDepth 20000 in
theorem gX10_go_X10_sign : GoodIn wsX10_go (wsV RX10 183 RX10 yX10_sign wsX10_sign) := goodIn_app (goodIn_of _ (by decide +kernel)) ggX10_go_X10_sign
theorem dX10_go_0 : decode cX10_go 0 = .ok (.aload_n 0, 1) := by decide +kernel
theorem dX10_go_1 : decode cX10_go 1 = .ok (.iconst 0, 1) := by decide +kernel
theorem dX10_go_2 : decode cX10_go 2 = .ok (.putfield 176, 3) := by decide +kernel
theorem dX10_go_5 : decode cX10_go 5 = .ok (.aload_n 0, 1) := by decide +kernel
theorem dX10_go_6 : decode cX10_go 6 = .ok (.iconst 0, 1) := by decide +kernel
theorem dX10_go_7 : decode cX10_go 7 = .ok (.putfield 179, 3) := by decide +kernel
theorem dX10_go_10 : decode cX10_go 10 = .ok (.aload_n 0, 1) := by decide +kernel
theorem dX10_go_11 : decode cX10_go 11 = .ok (.iconst 0, 1) := by decide +kernel
theorem dX10_go_12 : decode cX10_go 12 = .ok (.putfield 189, 3) := by decide +kernel
theorem dX10_go_15 : decode cX10_go 15 = .ok (.iconst 0, 1) := by decide +kernel
theorem dX10_go_16 : decode cX10_go 16 = .ok (.istore_n 2, 1) := by decide +kernel
theorem dX10_go_17 : decode cX10_go 17 = .ok (.iconst 1, 1) := by decide +kernel
theorem dX10_go_18 : decode cX10_go 18 = .ok (.istore_n 3, 1) := by decide +kernel
theorem dX10_go_19 : decode cX10_go 19 = .ok (.iload_n 3, 1) := by decide +kernel
theorem dX10_go_20 : decode cX10_go 20 = .ok (.ifCond .eq 75, 3) := by decide +kernel
theorem dX10_go_23 : decode cX10_go 23 = .ok (.aload_n 0, 1) := by decide +kernel
theorem dX10_go_24 : decode cX10_go 24 = .ok (.iload_n 1, 1) := by decide +kernel
theorem dX10_go_25 : decode cX10_go 25 = .ok (.invokevirtual 192, 3) := by decide +kernel
theorem dX10_go_28 : decode cX10_go 28 = .ok (.ifCond .ne 10, 3) := by decide +kernel
theorem dX10_go_31 : decode cX10_go 31 = .ok (.aload_n 0, 1) := by decide +kernel
theorem dX10_go_32 : decode cX10_go 32 = .ok (.iconst 1, 1) := by decide +kernel
theorem dX10_go_33 : decode cX10_go 33 = .ok (.putfield 189, 3) := by decide +kernel
theorem dX10_go_36 : decode cX10_go 36 = .ok (.iload_n 2, 1) := by decide +kernel
theorem dX10_go_37 : decode cX10_go 37 = .ok (.ireturn, 1) := by decide +kernel
theorem dX10_go_38 : decode cX10_go 38 = .ok (.iinc 2 1, 3) := by decide +kernel
theorem dX10_go_41 : decode cX10_go 41 = .ok (.aload_n 0, 1) := by decide +kernel
theorem dX10_go_42 : decode cX10_go 42 = .ok (.getfield 179, 3) := by decide +kernel
theorem dX10_go_45 : decode cX10_go 45 = .ok (.ifCond .ne 18, 3) := by decide +kernel
theorem dX10_go_48 : decode cX10_go 48 = .ok (.aload_n 0, 1) := by decide +kernel
theorem dX10_go_49 : decode cX10_go 49 = .ok (.getfield 176, 3) := by decide +kernel
theorem dX10_go_52 : decode cX10_go 52 = .ok (.aload_n 0, 1) := by decide +kernel
theorem dX10_go_53 : decode cX10_go 53 = .ok (.getfield 173, 3) := by decide +kernel
theorem dX10_go_56 : decode cX10_go 56 = .ok (.if_icmp .ge 7, 3) := by decide +kernel
theorem dX10_go_59 : decode cX10_go 59 = .ok (.iconst 1, 1) := by decide +kernel
theorem dX10_go_60 : decode cX10_go 60 = .ok (.goto 4, 3) := by decide +kernel
theorem dX10_go_63 : decode cX10_go 63 = .ok (.iconst 0, 1) := by decide +kernel
theorem dX10_go_64 : decode cX10_go 64 = .ok (.istore_n 3, 1) := by decide +kernel
theorem dX10_go_65 : decode cX10_go 65 = .ok (.iload_n 3, 1) := by decide +kernel
theorem dX10_go_66 : decode cX10_go 66 = .ok (.ifCond .eq (-47), 3) := by decide +kernel
theorem dX10_go_69 : decode cX10_go 69 = .ok (.aload_n 0, 1) := by decide +kernel
theorem dX10_go_70 : decode cX10_go 70 = .ok (.bipush 59, 2) := by decide +kernel
theorem dX10_go_72 : decode cX10_go 72 = .ok (.bipush 59, 2) := by decide +kernel
theorem dX10_go_74 : decode cX10_go 74 = .ok (.invokevirtual 183, 3) := by decide +kernel
theorem dX10_go_77 : decode cX10_go 77 = .ok (.istore 4, 2) := by decide +kernel
theorem dX10_go_79 : decode cX10_go 79 = .ok (.aload_n 0, 1) := by decide +kernel
theorem dX10_go_80 : decode cX10_go 80 = .ok (.getfield 179, 3) := by decide +kernel
theorem dX10_go_83 : decode cX10_go 83 = .ok (.ifCond .ne 7, 3) := by decide +kernel
theorem dX10_go_86 : decode cX10_go 86 = .ok (.iconst 1, 1) := by decide +kernel
theorem dX10_go_87 : decode cX10_go 87 = .ok (.goto 4, 3) := by decide +kernel
theorem dX10_go_90 : decode cX10_go 90 = .ok (.iconst 0, 1) := by decide +kernel
theorem dX10_go_91 : decode cX10_go 91 = .ok (.istore_n 3, 1) := by decide +kernel
theorem dX10_go_92 : decode cX10_go 92 = .ok (.goto (-73), 3) := by decide +kernel
theorem dX10_go_95 : decode cX10_go 95 = .ok (.iload_n 2, 1) := by decide +kernel
theorem dX10_go_96 : decode cX10_go 96 = .ok (.ireturn, 1) := by decide +kernel
set_option maxRecDepth 20000 in
theorem ggX10_firstError_X10_go : GoodIn wsX10_firstError wsX10_go := goodIn_r _ [9, 3, 2, 10, 4, 11, 12, 13, 8, 14, 15, 16, 17, 18, 19, 20, 21, 22, 23, 24, 25, 26, 27, 28, 29, 30, 31, 32, 33, 34, 35, 36, 37, 38, 39, 40, 41, 42, 43, 44, 45, 46, 47, 48, 49, 50, 51, 52, 53, 54, 55, 56, 57, 58, 59, 60, 61, 62, 63, 64, 65, 66, 67, 68, 69, 70, 71, 72, 73, 74, 75, 76, 77, 78, 79, 80, 81, 82, 83, 84, 85, 86, 87, 88, 89, 90, 91, 92, 93, 94, 95, 96, 97, 98, 99, 100, 101, 102, 103, 104, 105, 106, 107, 108, 109, 110, 111, 112, 113, 114, 115, 116, 117, 118, 119, 120, 121, 122, 123, 124, 125, 126, 127, 128, 129, 130, 131, 132, 133, 134, 135, 136, 137, 138, 139, 140, 141, 142, 143, 144, 145, 146, 147, 148, 149, 150, 151, 152, 153, 154, 155, 156, 157, 158, 159, 160, 161, 162, 163, 164, 165, 166] (by decide +kernel) (by decide +kernel)
set_option maxRecDepth 20000 in
theorem gX10_firstError_X10_go : GoodIn wsX10_firstError (wsV RX10 196 RX10 yX10_go wsX10_go) := goodIn_app (goodIn_of _ (by decide +kernel)) ggX10_firstError_X10_go
theorem dX10_firstError_0 : decode cX10_firstError 0 = .ok (.aload_n 0, 1) := by decide +kernel
theorem dX10_firstError_1 : decode cX10_firstError 1 = .ok (.iconst 0, 1) := by decide +kernel
theorem dX10_firstError_2 : decode cX10_firstError 2 = .ok (.putfield 48, 3) := by decide +kernel
theorem dX10_firstError_5 : decode cX10_firstError 5 = .ok (.aload_n 0, 1) := by decide +kernel
theorem dX10_firstError_6 : decode cX10_firstError 6 = .ok (.iconst 0, 1) := by decide +kernel
theorem dX10_firstError_7 : decode cX10_firstError 7 = .ok (.invokevirtual 196, 3) := by decide +kernel
theorem dX10_firstError_10 : decode cX10_firstError 10 = .ok (.istore_n 1, 1) := by decide +kernel
theorem dX10_firstError_11 : decode cX10_firstError 11 = .ok (.aload_n 0, 1) := by decide +kernel
theorem dX10_firstError_12 : decode cX10_firstError 12 = .ok (.getfield 179, 3) := by decide +kernel
theorem dX10_firstError_15 : decode cX10_firstError 15 = .ok (.ifCond .eq 10, 3) := by decide +kernel
theorem dX10_firstError_18 : decode cX10_firstError 18 = .ok (.aload_n 0, 1) := by decide +kernel
theorem dX10_firstError_19 : decode cX10_firstError 19 = .ok (.getfield 176, 3) := by decide +kernel
theorem dX10_firstError_22 : decode cX10_firstError 22 = .ok (.goto 7, 3) := by decide +kernel
theorem dX10_firstError_25 : decode cX10_firstError 25 = .ok (.aload_n 0, 1) := by decide +kernel
theorem dX10_firstError_26 : decode cX10_firstError 26 = .ok (.getfield 173, 3) := by decide +kernel
theorem dX10_firstError_29 : decode cX10_firstError 29 = .ok (.ireturn, 1) := by decide +kernel
set_option maxRecDepth 20000 in
theorem ggX10_play_X10_go : GoodIn wsX10_play wsX10_go := goodIn_r _ [10, 11, 2, 4, 5, 12, 13, 14, 9, 15, 16, 17, 18, 19, 20, 21, 22, 23, 24, 25, 26, 27, 3, 28, 29, 30, 31, 32, 33, 34, 35, 36, 37, 38, 39, 40, 41, 42, 43, 44, 45, 46, 47, 48, 49, 50, 51, 52, 53, 54, 55, 56, 57, 58, 59, 60, 61, 62, 63, 64, 65, 66, 67, 68, 69, 70, 71, 72, 73, 74, 75, 76, 77, 78, 79, 80, 81, 82, 83, 84, 85, 86, 87, 88, 89, 90, 91, 92, 93, 94, 95, 96, 97, 98, 99, 100, 101, 102, 103, 104, 105, 106, 107, 108, 109, 110, 111, 112, 113, 114, 115, 116, 117, 118, 119, 120, 121, 122, 123, 124, 125, 126, 127, 128, 129, 130, 131, 132, 133, 134, 135, 136, 137, 138, 139, 140, 141, 142, 143, 144, 145, 146, 157, 158, 159, 160, 161, 162, 163, 164, 165, 166, 167, 168, 169, 170, 171, 172, 173, 174, 175, 176] (by decide +kernel) (by decide +kernel)
set_option maxRecDepth 20000 in
theorem gX10_play_X10_go : GoodIn wsX10_play (wsV RX10 196 RX10 yX10_go wsX10_go) := goodIn_app (goodIn_of _ (by decide +kernel)) ggX10_play_X10_go
set_option maxRecDepth 20000 in
theorem ggX10_play_X10_throwing : GoodIn wsX10_play wsX10_throwing := goodIn_r _ [150, 1, 157, 158, 159, 160, 161, 162, 163, 164, 165, 166, 167, 168, 169, 170, 171, 172, 173, 174, 175, 176] (by decide +kernel) (by decide +kernel)
set_option maxRecDepth 20000 in
theorem gX10_play_X10_throwing : GoodIn wsX10_play (wsV RX10 125 RX10 yX10_throwing wsX10_throwing) := goodIn_app (goodIn_of _ (by decide +kernel)) ggX10_play_X10_throwing
set_option maxRecDepth 20000 in
theorem ggX10_play_X10_save : GoodIn wsX10_play wsX10_save := goodIn_r _ [154, 155, 156, 3, 157, 158, 159, 160, 161, 162, 163, 164, 165, 166, 167, 168, 169, 170, 171, 172, 173, 174, 175, 176] (by decide +kernel) (by decide +kernel)
set_option maxRecDepth 20000 in
theorem gX10_play_X10_save : GoodIn wsX10_play (wsV RX10 128 RX10 yX10_save wsX10_save) := goodIn_app (goodIn_of _ (by decide +kernel)) ggX10_play_X10_save
theorem dX10_play_0 : decode cX10_play 0 = .ok (.aload_n 0, 1) := by decide +kernel
theorem dX10_play_1 : decode cX10_play 1 = .ok (.iconst 0, 1) := by decide +kernel
theorem dX10_play_2 : decode cX10_play 2 = .ok (.putfield 48, 3) := by decide +kernel
theorem dX10_play_5 : decode cX10_play 5 = .ok (.aload_n 0, 1) := by decide +kernel
theorem dX10_play_6 : decode cX10_play 6 = .ok (.iconst 0, 1) := by decide +kernel
theorem dX10_play_7 : decode cX10_play 7 = .ok (.invokevirtual 196, 3) := by decide +kernel
theorem dX10_play_10 : decode cX10_play 10 = .ok (.istore_n 1, 1) := by decide +kernel
theorem dX10_play_11 : decode cX10_play 11 = .ok (.aload_n 0, 1) := by decide +kernel
theorem dX10_play_12 : decode cX10_play 12 = .ok (.getfield 179, 3) := by decide +kernel
theorem dX10_play_15 : decode cX10_play 15 = .ok (.ifCond .eq 9, 3) := by decide +kernel
theorem dX10_play_18 : decode cX10_play 18 = .ok (.aload_n 0, 1) := by decide +kernel
theorem dX10_play_19 : decode cX10_play 19 = .ok (.iconst 1, 1) := by decide +kernel
theorem dX10_play_20 : decode cX10_play 20 = .ok (.invokevirtual 125, 3) := by decide +kernel
theorem dX10_play_23 : decode cX10_play 23 = .ok (.ireturn, 1) := by decide +kernel
theorem dX10_play_24 : decode cX10_play 24 = .ok (.aload_n 0, 1) := by decide +kernel
theorem dX10_play_25 : decode cX10_play 25 = .ok (.invokevirtual 128, 3) := by decide +kernel
theorem dX10_play_28 : decode cX10_play 28 = .ok (.aload_n 0, 1) := by decide +kernel
theorem dX10_play_29 : decode cX10_play 29 = .ok (.iconst 1, 1) := by decide +kernel
theorem dX10_play_30 : decode cX10_play 30 = .ok (.invokevirtual 196, 3) := by decide +kernel
theorem dX10_play_33 : decode cX10_play 33 = .ok (.istore_n 1, 1) := by decide +kernel
theorem dX10_play_34 : decode cX10_play 34 = .ok (.aload_n 0, 1) := by decide +kernel
theorem dX10_play_35 : decode cX10_play 35 = .ok (.getfield 7, 3) := by decide +kernel
theorem dX10_play_38 : decode cX10_play 38 = .ok (.bipush 49, 2) := by decide +kernel
theorem dX10_play_40 : decode cX10_play 40 = .ok (.aload_n 0, 1) := by decide +kernel
theorem dX10_play_41 : decode cX10_play 41 = .ok (.getfield 189, 3) := by decide +kernel
theorem dX10_play_44 : decode cX10_play 44 = .ok (.ifCond .eq 7, 3) := by decide +kernel
theorem dX10_play_47 : decode cX10_play 47 = .ok (.iconst 1, 1) := by decide +kernel
theorem dX10_play_48 : decode cX10_play 48 = .ok (.goto 4, 3) := by decide +kernel
theorem dX10_play_51 : decode cX10_play 51 = .ok (.iconst 0, 1) := by decide +kernel
theorem dX10_play_52 : decode cX10_play 52 = .ok (.iastore, 1) := by decide +kernel
theorem dX10_play_53 : decode cX10_play 53 = .ok (.aload_n 0, 1) := by decide +kernel
theorem dX10_play_54 : decode cX10_play 54 = .ok (.getfield 7, 3) := by decide +kernel
theorem dX10_play_57 : decode cX10_play 57 = .ok (.bipush 50, 2) := by decide +kernel
theorem dX10_play_59 : decode cX10_play 59 = .ok (.aload_n 0, 1) := by decide +kernel
theorem dX10_play_60 : decode cX10_play 60 = .ok (.getfield 189, 3) := by decide +kernel
theorem dX10_play_63 : decode cX10_play 63 = .ok (.ifCond .eq 7, 3) := by decide +kernel
theorem dX10_play_66 : decode cX10_play 66 = .ok (.iload_n 1, 1) := by decide +kernel
theorem dX10_play_67 : decode cX10_play 67 = .ok (.goto 4, 3) := by decide +kernel
theorem dX10_play_70 : decode cX10_play 70 = .ok (.iconst 0, 1) := by decide +kernel
theorem dX10_play_71 : decode cX10_play 71 = .ok (.iastore, 1) := by decide +kernel
theorem dX10_play_72 : decode cX10_play 72 = .ok (.aload_n 0, 1) := by decide +kernel
theorem dX10_play_73 : decode cX10_play 73 = .ok (.iconst 0, 1) := by decide +kernel
theorem dX10_play_74 : decode cX10_play 74 = .ok (.putfield 173, 3) := by decide +kernel
theorem dX10_play_77 : decode cX10_play 77 = .ok (.iload_n 1, 1) := by decide +kernel
theorem dX10_play_78 : decode cX10_play 78 = .ok (.ireturn, 1) := by decide +kernel
theorem dX10_hasStopped_0 : decode cX10_hasStopped 0 = .ok (.aload_n 0, 1) := by decide +kernel
theorem dX10_hasStopped_1 : decode cX10_hasStopped 1 = .ok (.iconst 0, 1) := by decide +kernel
theorem dX10_hasStopped_2 : decode cX10_hasStopped 2 = .ok (.putfield 48, 3) := by decide +kernel
theorem dX10_hasStopped_5 : decode cX10_hasStopped 5 = .ok (.aload_n 0, 1) := by decide +kernel
theorem dX10_hasStopped_6 : decode cX10_hasStopped 6 = .ok (.getfield 7, 3) := by decide +kernel
theorem dX10_hasStopped_9 : decode cX10_hasStopped 9 = .ok (.bipush 49, 2) := by decide +kernel
theorem dX10_hasStopped_11 : decode cX10_hasStopped 11 = .ok (.iaload, 1) := by decide +kernel
theorem dX10_hasStopped_12 : decode cX10_hasStopped 12 = .ok (.iconst 1, 1) := by decide +kernel
theorem dX10_hasStopped_13 : decode cX10_hasStopped 13 = .ok (.if_icmp .ne 7, 3) := by decide +kernel
theorem dX10_hasStopped_16 : decode cX10_hasStopped 16 = .ok (.iconst 1, 1) := by decide +kernel
theorem dX10_hasStopped_17 : decode cX10_hasStopped 17 = .ok (.goto 4, 3) := by decide +kernel
theorem dX10_hasStopped_20 : decode cX10_hasStopped 20 = .ok (.iconst 0, 1) := by decide +kernel
theorem dX10_hasStopped_21 : decode cX10_hasStopped 21 = .ok (.ireturn, 1) := by decide +kernel
set_option maxRecDepth 20000 in
theorem ggX10_stoppedPart_X10_throwing : GoodIn wsX10_stoppedPart wsX10_throwing := goodIn_r _ [7, 1, 8, 9, 10, 11, 12, 13, 14, 15, 16, 17, 18, 19, 20, 21, 22, 23, 24, 25, 26, 27] (by decide +kernel) (by decide +kernel)
set_option maxRecDepth 20000 in
theorem gX10_stoppedPart_X10_throwing : GoodIn wsX10_stoppedPart (wsV RX10 125 RX10 yX10_throwing wsX10_throwing) := goodIn_app (goodIn_of _ (by decide +kernel)) ggX10_stoppedPart_X10_throwing
theorem dX10_stoppedPart_0 : decode cX10_stoppedPart 0 = .ok (.aload_n 0, 1) := by decide +kernel
theorem dX10_stoppedPart_1 : decode cX10_stoppedPart 1 = .ok (.iconst 0, 1) := by decide +kernel
theorem dX10_stoppedPart_2 : decode cX10_stoppedPart 2 = .ok (.putfield 48, 3) := by decide +kernel
theorem dX10_stoppedPart_5 : decode cX10_stoppedPart 5 = .ok (.aload_n 0, 1) := by decide +kernel
theorem dX10_stoppedPart_6 : decode cX10_stoppedPart 6 = .ok (.getfield 7, 3) := by decide +kernel
theorem dX10_stoppedPart_9 : decode cX10_stoppedPart 9 = .ok (.bipush 49, 2) := by decide +kernel
theorem dX10_stoppedPart_11 : decode cX10_stoppedPart 11 = .ok (.iaload, 1) := by decide +kernel
theorem dX10_stoppedPart_12 : decode cX10_stoppedPart 12 = .ok (.iconst 1, 1) := by decide +kernel
theorem dX10_stoppedPart_13 : decode cX10_stoppedPart 13 = .ok (.if_icmp .ne 13, 3) := by decide +kernel
theorem dX10_stoppedPart_16 : decode cX10_stoppedPart 16 = .ok (.aload_n 0, 1) := by decide +kernel
theorem dX10_stoppedPart_17 : decode cX10_stoppedPart 17 = .ok (.getfield 7, 3) := by decide +kernel
theorem dX10_stoppedPart_20 : decode cX10_stoppedPart 20 = .ok (.bipush 50, 2) := by decide +kernel
theorem dX10_stoppedPart_22 : decode cX10_stoppedPart 22 = .ok (.iaload, 1) := by decide +kernel
theorem dX10_stoppedPart_23 : decode cX10_stoppedPart 23 = .ok (.goto 8, 3) := by decide +kernel
theorem dX10_stoppedPart_26 : decode cX10_stoppedPart 26 = .ok (.aload_n 0, 1) := by decide +kernel
theorem dX10_stoppedPart_27 : decode cX10_stoppedPart 27 = .ok (.iconst 1, 1) := by decide +kernel
theorem dX10_stoppedPart_28 : decode cX10_stoppedPart 28 = .ok (.invokevirtual 125, 3) := by decide +kernel
theorem dX10_stoppedPart_31 : decode cX10_stoppedPart 31 = .ok (.ireturn, 1) := by decide +kernel
set_option maxRecDepth 20000 in
theorem ggX10_undo_X10_throwing : GoodIn wsX10_undo wsX10_throwing := goodIn_r _ [9, 1, 10, 11, 12, 13, 14, 15, 16, 17, 18, 19, 20, 21, 22, 23, 24, 25, 26, 27, 28, 29] (by decide +kernel) (by decide +kernel)
set_option maxRecDepth 20000 in
theorem gX10_undo_X10_throwing : GoodIn wsX10_undo (wsV RX10 125 RX10 yX10_throwing wsX10_throwing) := goodIn_app (goodIn_of _ (by decide +kernel)) ggX10_undo_X10_throwing
theorem dX10_undo_0 : decode cX10_undo 0 = .ok (.aload_n 0, 1) := by decide +kernel
theorem dX10_undo_1 : decode cX10_undo 1 = .ok (.iconst 0, 1) := by decide +kernel
theorem dX10_undo_2 : decode cX10_undo 2 = .ok (.putfield 48, 3) := by decide +kernel
theorem dX10_undo_5 : decode cX10_undo 5 = .ok (.aload_n 0, 1) := by decide +kernel
theorem dX10_undo_6 : decode cX10_undo 6 = .ok (.getfield 56, 3) := by decide +kernel
theorem dX10_undo_9 : decode cX10_undo 9 = .ok (.ifCond .ne 9, 3) := by decide +kernel
theorem dX10_undo_12 : decode cX10_undo 12 = .ok (.aload_n 0, 1) := by decide +kernel
theorem dX10_undo_13 : decode cX10_undo 13 = .ok (.iconst 1, 1) := by decide +kernel
theorem dX10_undo_14 : decode cX10_undo 14 = .ok (.invokevirtual 125, 3) := by decide +kernel
theorem dX10_undo_17 : decode cX10_undo 17 = .ok (.ireturn, 1) := by decide +kernel
theorem dX10_undo_18 : decode cX10_undo 18 = .ok (.aload_n 0, 1) := by decide +kernel
theorem dX10_undo_19 : decode cX10_undo 19 = .ok (.dup, 1) := by decide +kernel
theorem dX10_undo_20 : decode cX10_undo 20 = .ok (.getfield 56, 3) := by decide +kernel
theorem dX10_undo_23 : decode cX10_undo 23 = .ok (.iconst 1, 1) := by decide +kernel
theorem dX10_undo_24 : decode cX10_undo 24 = .ok (.isub, 1) := by decide +kernel
theorem dX10_undo_25 : decode cX10_undo 25 = .ok (.putfield 56, 3) := by decide +kernel
theorem dX10_undo_28 : decode cX10_undo 28 = .ok (.iconst 0, 1) := by decide +kernel
theorem dX10_undo_29 : decode cX10_undo 29 = .ok (.istore_n 1, 1) := by decide +kernel
theorem dX10_undo_30 : decode cX10_undo 30 = .ok (.iload_n 1, 1) := by decide +kernel
theorem dX10_undo_31 : decode cX10_undo 31 = .ok (.bipush 51, 2) := by decide +kernel
theorem dX10_undo_33 : decode cX10_undo 33 = .ok (.if_icmp .ge 29, 3) := by decide +kernel
theorem dX10_undo_36 : decode cX10_undo 36 = .ok (.aload_n 0, 1) := by decide +kernel
theorem dX10_undo_37 : decode cX10_undo 37 = .ok (.getfield 7, 3) := by decide +kernel
theorem dX10_undo_40 : decode cX10_undo 40 = .ok (.iload_n 1, 1) := by decide +kernel
theorem dX10_undo_41 : decode cX10_undo 41 = .ok (.aload_n 0, 1) := by decide +kernel
theorem dX10_undo_42 : decode cX10_undo 42 = .ok (.getfield 13, 3) := by decide +kernel
theorem dX10_undo_45 : decode cX10_undo 45 = .ok (.bipush 51, 2) := by decide +kernel
theorem dX10_undo_47 : decode cX10_undo 47 = .ok (.aload_n 0, 1) := by decide +kernel
theorem dX10_undo_48 : decode cX10_undo 48 = .ok (.getfield 56, 3) := by decide +kernel
theorem dX10_undo_51 : decode cX10_undo 51 = .ok (.imul, 1) := by decide +kernel
theorem dX10_undo_52 : decode cX10_undo 52 = .ok (.iload_n 1, 1) := by decide +kernel
theorem dX10_undo_53 : decode cX10_undo 53 = .ok (.iadd, 1) := by decide +kernel
theorem dX10_undo_54 : decode cX10_undo 54 = .ok (.iaload, 1) := by decide +kernel
theorem dX10_undo_55 : decode cX10_undo 55 = .ok (.iastore, 1) := by decide +kernel
theorem dX10_undo_56 : decode cX10_undo 56 = .ok (.iinc 1 1, 3) := by decide +kernel
theorem dX10_undo_59 : decode cX10_undo 59 = .ok (.goto (-29), 3) := by decide +kernel
theorem dX10_undo_62 : decode cX10_undo 62 = .ok (.aload_n 0, 1) := by decide +kernel
theorem dX10_undo_63 : decode cX10_undo 63 = .ok (.getfield 56, 3) := by decide +kernel
theorem dX10_undo_66 : decode cX10_undo 66 = .ok (.ireturn, 1) := by decide +kernel
theorem dX10_keep_0 : decode cX10_keep 0 = .ok (.aload_n 0, 1) := by decide +kernel
theorem dX10_keep_1 : decode cX10_keep 1 = .ok (.iconst 0, 1) := by decide +kernel
theorem dX10_keep_2 : decode cX10_keep 2 = .ok (.putfield 48, 3) := by decide +kernel
theorem dX10_keep_5 : decode cX10_keep 5 = .ok (.iconst 0, 1) := by decide +kernel
theorem dX10_keep_6 : decode cX10_keep 6 = .ok (.istore_n 1, 1) := by decide +kernel
theorem dX10_keep_7 : decode cX10_keep 7 = .ok (.iload_n 1, 1) := by decide +kernel
theorem dX10_keep_8 : decode cX10_keep 8 = .ok (.bipush 51, 2) := by decide +kernel
theorem dX10_keep_10 : decode cX10_keep 10 = .ok (.if_icmp .ge 21, 3) := by decide +kernel
theorem dX10_keep_13 : decode cX10_keep 13 = .ok (.aload_n 0, 1) := by decide +kernel
theorem dX10_keep_14 : decode cX10_keep 14 = .ok (.getfield 16, 3) := by decide +kernel
theorem dX10_keep_17 : decode cX10_keep 17 = .ok (.iload_n 1, 1) := by decide +kernel
theorem dX10_keep_18 : decode cX10_keep 18 = .ok (.aload_n 0, 1) := by decide +kernel
theorem dX10_keep_19 : decode cX10_keep 19 = .ok (.getfield 7, 3) := by decide +kernel
theorem dX10_keep_22 : decode cX10_keep 22 = .ok (.iload_n 1, 1) := by decide +kernel
theorem dX10_keep_23 : decode cX10_keep 23 = .ok (.iaload, 1) := by decide +kernel
theorem dX10_keep_24 : decode cX10_keep 24 = .ok (.iastore, 1) := by decide +kernel
theorem dX10_keep_25 : decode cX10_keep 25 = .ok (.iinc 1 1, 3) := by decide +kernel
theorem dX10_keep_28 : decode cX10_keep 28 = .ok (.goto (-21), 3) := by decide +kernel
theorem dX10_keep_31 : decode cX10_keep 31 = .ok (.aload_n 0, 1) := by decide +kernel
theorem dX10_keep_32 : decode cX10_keep 32 = .ok (.iconst 1, 1) := by decide +kernel
theorem dX10_keep_33 : decode cX10_keep 33 = .ok (.putfield 200, 3) := by decide +kernel
theorem dX10_keep_36 : decode cX10_keep 36 = .ok (.aload_n 0, 1) := by decide +kernel
theorem dX10_keep_37 : decode cX10_keep 37 = .ok (.getfield 7, 3) := by decide +kernel
theorem dX10_keep_40 : decode cX10_keep 40 = .ok (.bipush 36, 2) := by decide +kernel
theorem dX10_keep_42 : decode cX10_keep 42 = .ok (.iaload, 1) := by decide +kernel
theorem dX10_keep_43 : decode cX10_keep 43 = .ok (.ireturn, 1) := by decide +kernel
set_option maxRecDepth 20000 in
theorem ggX10_restore_X10_throwing : GoodIn wsX10_restore wsX10_throwing := goodIn_r _ [9, 1, 16, 17, 18, 19, 20, 21, 22, 23, 24, 25, 26, 27, 28, 29, 30, 31, 32, 33, 34, 35] (by decide +kernel) (by decide +kernel)
set_option maxRecDepth 20000 in
theorem gX10_restore_X10_throwing : GoodIn wsX10_restore (wsV RX10 125 RX10 yX10_throwing wsX10_throwing) := goodIn_app (goodIn_of _ (by decide +kernel)) ggX10_restore_X10_throwing
set_option maxRecDepth 20000 in
theorem ggX10_restore_X10_save : GoodIn wsX10_restore wsX10_save := goodIn_r _ [13, 14, 15, 3, 16, 17, 18, 19, 20, 21, 22, 23, 24, 25, 26, 27, 28, 29, 30, 31, 32, 33, 34, 35] (by decide +kernel) (by decide +kernel)
set_option maxRecDepth 20000 in
theorem gX10_restore_X10_save : GoodIn wsX10_restore (wsV RX10 128 RX10 yX10_save wsX10_save) := goodIn_app (goodIn_of _ (by decide +kernel)) ggX10_restore_X10_save
theorem dX10_restore_0 : decode cX10_restore 0 = .ok (.aload_n 0, 1) := by decide +kernel
theorem dX10_restore_1 : decode cX10_restore 1 = .ok (.iconst 0, 1) := by decide +kernel
theorem dX10_restore_2 : decode cX10_restore 2 = .ok (.putfield 48, 3) := by decide +kernel
theorem dX10_restore_5 : decode cX10_restore 5 = .ok (.aload_n 0, 1) := by decide +kernel
theorem dX10_restore_6 : decode cX10_restore 6 = .ok (.getfield 200, 3) := by decide +kernel
theorem dX10_restore_9 : decode cX10_restore 9 = .ok (.ifCond .ne 9, 3) := by decide +kernel
theorem dX10_restore_12 : decode cX10_restore 12 = .ok (.aload_n 0, 1) := by decide +kernel
theorem dX10_restore_13 : decode cX10_restore 13 = .ok (.iconst 1, 1) := by decide +kernel
theorem dX10_restore_14 : decode cX10_restore 14 = .ok (.invokevirtual 125, 3) := by decide +kernel
theorem dX10_restore_17 : decode cX10_restore 17 = .ok (.ireturn, 1) := by decide +kernel
theorem dX10_restore_18 : decode cX10_restore 18 = .ok (.aload_n 0, 1) := by decide +kernel
theorem dX10_restore_19 : decode cX10_restore 19 = .ok (.invokevirtual 128, 3) := by decide +kernel
theorem dX10_restore_22 : decode cX10_restore 22 = .ok (.iconst 0, 1) := by decide +kernel
theorem dX10_restore_23 : decode cX10_restore 23 = .ok (.istore_n 1, 1) := by decide +kernel
theorem dX10_restore_24 : decode cX10_restore 24 = .ok (.iload_n 1, 1) := by decide +kernel
theorem dX10_restore_25 : decode cX10_restore 25 = .ok (.bipush 51, 2) := by decide +kernel
theorem dX10_restore_27 : decode cX10_restore 27 = .ok (.if_icmp .ge 21, 3) := by decide +kernel
theorem dX10_restore_30 : decode cX10_restore 30 = .ok (.aload_n 0, 1) := by decide +kernel
theorem dX10_restore_31 : decode cX10_restore 31 = .ok (.getfield 7, 3) := by decide +kernel
theorem dX10_restore_34 : decode cX10_restore 34 = .ok (.iload_n 1, 1) := by decide +kernel
theorem dX10_restore_35 : decode cX10_restore 35 = .ok (.aload_n 0, 1) := by decide +kernel
theorem dX10_restore_36 : decode cX10_restore 36 = .ok (.getfield 16, 3) := by decide +kernel
theorem dX10_restore_39 : decode cX10_restore 39 = .ok (.iload_n 1, 1) := by decide +kernel
theorem dX10_restore_40 : decode cX10_restore 40 = .ok (.iaload, 1) := by decide +kernel
theorem dX10_restore_41 : decode cX10_restore 41 = .ok (.iastore, 1) := by decide +kernel
theorem dX10_restore_42 : decode cX10_restore 42 = .ok (.iinc 1 1, 3) := by decide +kernel
theorem dX10_restore_45 : decode cX10_restore 45 = .ok (.goto (-21), 3) := by decide +kernel
theorem dX10_restore_48 : decode cX10_restore 48 = .ok (.aload_n 0, 1) := by decide +kernel
theorem dX10_restore_49 : decode cX10_restore 49 = .ok (.getfield 7, 3) := by decide +kernel
theorem dX10_restore_52 : decode cX10_restore 52 = .ok (.bipush 36, 2) := by decide +kernel
theorem dX10_restore_54 : decode cX10_restore 54 = .ok (.iaload, 1) := by decide +kernel
theorem dX10_restore_55 : decode cX10_restore 55 = .ok (.ireturn, 1) := by decide +kernel
theorem dX10_savedStates_0 : decode cX10_savedStates 0 = .ok (.aload_n 0, 1) := by decide +kernel
theorem dX10_savedStates_1 : decode cX10_savedStates 1 = .ok (.iconst 0, 1) := by decide +kernel
theorem dX10_savedStates_2 : decode cX10_savedStates 2 = .ok (.putfield 48, 3) := by decide +kernel
theorem dX10_savedStates_5 : decode cX10_savedStates 5 = .ok (.aload_n 0, 1) := by decide +kernel
theorem dX10_savedStates_6 : decode cX10_savedStates 6 = .ok (.getfield 56, 3) := by decide +kernel
theorem dX10_savedStates_9 : decode cX10_savedStates 9 = .ok (.ireturn, 1) := by decide +kernel
theorem dX10_mover_0 : decode cX10_mover 0 = .ok (.aload_n 0, 1) := by decide +kernel
theorem dX10_mover_1 : decode cX10_mover 1 = .ok (.iconst 0, 1) := by decide +kernel
theorem dX10_mover_2 : decode cX10_mover 2 = .ok (.putfield 48, 3) := by decide +kernel
theorem dX10_mover_5 : decode cX10_mover 5 = .ok (.aload_n 0, 1) := by decide +kernel
theorem dX10_mover_6 : decode cX10_mover 6 = .ok (.getfield 7, 3) := by decide +kernel
theorem dX10_mover_9 : decode cX10_mover 9 = .ok (.bipush 36, 2) := by decide +kernel
theorem dX10_mover_11 : decode cX10_mover 11 = .ok (.iaload, 1) := by decide +kernel
theorem dX10_mover_12 : decode cX10_mover 12 = .ok (.ireturn, 1) := by decide +kernel
theorem dX10_phase_0 : decode cX10_phase 0 = .ok (.aload_n 0, 1) := by decide +kernel
theorem dX10_phase_1 : decode cX10_phase 1 = .ok (.iconst 0, 1) := by decide +kernel
theorem dX10_phase_2 : decode cX10_phase 2 = .ok (.putfield 48, 3) := by decide +kernel
theorem dX10_phase_5 : decode cX10_phase 5 = .ok (.aload_n 0, 1) := by decide +kernel
theorem dX10_phase_6 : decode cX10_phase 6 = .ok (.getfield 7, 3) := by decide +kernel
theorem dX10_phase_9 : decode cX10_phase 9 = .ok (.bipush 37, 2) := by decide +kernel
theorem dX10_phase_11 : decode cX10_phase 11 = .ok (.iaload, 1) := by decide +kernel
theorem dX10_phase_12 : decode cX10_phase 12 = .ok (.ireturn, 1) := by decide +kernel
theorem dX10_diceLeft_0 : decode cX10_diceLeft 0 = .ok (.aload_n 0, 1) := by decide +kernel
theorem dX10_diceLeft_1 : decode cX10_diceLeft 1 = .ok (.iconst 0, 1) := by decide +kernel
theorem dX10_diceLeft_2 : decode cX10_diceLeft 2 = .ok (.putfield 48, 3) := by decide +kernel
theorem dX10_diceLeft_5 : decode cX10_diceLeft 5 = .ok (.aload_n 0, 1) := by decide +kernel
theorem dX10_diceLeft_6 : decode cX10_diceLeft 6 = .ok (.getfield 7, 3) := by decide +kernel
theorem dX10_diceLeft_9 : decode cX10_diceLeft 9 = .ok (.bipush 38, 2) := by decide +kernel
theorem dX10_diceLeft_11 : decode cX10_diceLeft 11 = .ok (.iaload, 1) := by decide +kernel
theorem dX10_diceLeft_12 : decode cX10_diceLeft 12 = .ok (.ireturn, 1) := by decide +kernel
set_option maxRecDepth 20000 in
theorem ggX10_dieLeft_X10_in : GoodIn wsX10_dieLeft wsX10_in := goodIn_r _ [6] (by decide +kernel) (by decide +kernel)
set_option maxRecDepth 20000 in
theorem gX10_dieLeft_X10_in : GoodIn wsX10_dieLeft (va_wsS RX10 52 yX10_in wsX10_in) := goodIn_app (goodIn_of _ (by decide +kernel)) ggX10_dieLeft_X10_in
set_option maxRecDepth 20000 in
theorem ggX10_dieLeft_X10_throwing : GoodIn wsX10_dieLeft wsX10_throwing := goodIn_r _ [10, 1, 11, 12, 13, 14, 15, 16, 17, 18, 19, 20, 21, 22, 23, 24, 25, 26, 27, 28, 29, 30] (by decide +kernel) (by decide +kernel)
set_option maxRecDepth 20000 in
theorem gX10_dieLeft_X10_throwing : GoodIn wsX10_dieLeft (wsV RX10 125 RX10 yX10_throwing wsX10_throwing) := goodIn_app (goodIn_of _ (by decide +kernel)) ggX10_dieLeft_X10_throwing
theorem dX10_dieLeft_0 : decode cX10_dieLeft 0 = .ok (.aload_n 0, 1) := by decide +kernel
theorem dX10_dieLeft_1 : decode cX10_dieLeft 1 = .ok (.iconst 0, 1) := by decide +kernel
theorem dX10_dieLeft_2 : decode cX10_dieLeft 2 = .ok (.putfield 48, 3) := by decide +kernel
theorem dX10_dieLeft_5 : decode cX10_dieLeft 5 = .ok (.iload_n 1, 1) := by decide +kernel
theorem dX10_dieLeft_6 : decode cX10_dieLeft 6 = .ok (.iconst 0, 1) := by decide +kernel
theorem dX10_dieLeft_7 : decode cX10_dieLeft 7 = .ok (.aload_n 0, 1) := by decide +kernel
theorem dX10_dieLeft_8 : decode cX10_dieLeft 8 = .ok (.getfield 7, 3) := by decide +kernel
theorem dX10_dieLeft_11 : decode cX10_dieLeft 11 = .ok (.bipush 38, 2) := by decide +kernel
theorem dX10_dieLeft_13 : decode cX10_dieLeft 13 = .ok (.iaload, 1) := by decide +kernel
theorem dX10_dieLeft_14 : decode cX10_dieLeft 14 = .ok (.iconst 1, 1) := by decide +kernel
theorem dX10_dieLeft_15 : decode cX10_dieLeft 15 = .ok (.isub, 1) := by decide +kernel
theorem dX10_dieLeft_16 : decode cX10_dieLeft 16 = .ok (.invokestatic 52, 3) := by decide +kernel
theorem dX10_dieLeft_19 : decode cX10_dieLeft 19 = .ok (.ifCond .eq 15, 3) := by decide +kernel
theorem dX10_dieLeft_22 : decode cX10_dieLeft 22 = .ok (.aload_n 0, 1) := by decide +kernel
theorem dX10_dieLeft_23 : decode cX10_dieLeft 23 = .ok (.getfield 7, 3) := by decide +kernel
theorem dX10_dieLeft_26 : decode cX10_dieLeft 26 = .ok (.bipush 39, 2) := by decide +kernel
theorem dX10_dieLeft_28 : decode cX10_dieLeft 28 = .ok (.iload_n 1, 1) := by decide +kernel
theorem dX10_dieLeft_29 : decode cX10_dieLeft 29 = .ok (.iadd, 1) := by decide +kernel
theorem dX10_dieLeft_30 : decode cX10_dieLeft 30 = .ok (.iaload, 1) := by decide +kernel
theorem dX10_dieLeft_31 : decode cX10_dieLeft 31 = .ok (.goto 8, 3) := by decide +kernel
theorem dX10_dieLeft_34 : decode cX10_dieLeft 34 = .ok (.aload_n 0, 1) := by decide +kernel
theorem dX10_dieLeft_35 : decode cX10_dieLeft 35 = .ok (.iconst 1, 1) := by decide +kernel
theorem dX10_dieLeft_36 : decode cX10_dieLeft 36 = .ok (.invokevirtual 125, 3) := by decide +kernel
theorem dX10_dieLeft_39 : decode cX10_dieLeft 39 = .ok (.ireturn, 1) := by decide +kernel
set_option maxRecDepth 20000 in
theorem ggX10_isThere_X10_isPlayer : GoodIn wsX10_isThere wsX10_isPlayer := goodIn_r _ [5, 6, 7, 4, 8] (by decide +kernel) (by decide +kernel)
set_option maxRecDepth 20000 in
theorem gX10_isThere_X10_isPlayer : GoodIn wsX10_isThere (va_wsS RX10 149 yX10_isPlayer wsX10_isPlayer) := goodIn_app (goodIn_of _ (by decide +kernel)) ggX10_isThere_X10_isPlayer
set_option maxRecDepth 20000 in
theorem ggX10_isThere_X10_isPoint : GoodIn wsX10_isThere wsX10_isPoint := goodIn_r _ [11, 6, 7, 4, 8] (by decide +kernel) (by decide +kernel)
set_option maxRecDepth 20000 in
theorem gX10_isThere_X10_isPoint : GoodIn wsX10_isThere (va_wsS RX10 152 yX10_isPoint wsX10_isPoint) := goodIn_app (goodIn_of _ (by decide +kernel)) ggX10_isThere_X10_isPoint
theorem dX10_isThere_0 : decode cX10_isThere 0 = .ok (.aload_n 0, 1) := by decide +kernel
theorem dX10_isThere_1 : decode cX10_isThere 1 = .ok (.iload_n 1, 1) := by decide +kernel
theorem dX10_isThere_2 : decode cX10_isThere 2 = .ok (.invokestatic 149, 3) := by decide +kernel
theorem dX10_isThere_5 : decode cX10_isThere 5 = .ok (.ifCond .eq 14, 3) := by decide +kernel
theorem dX10_isThere_8 : decode cX10_isThere 8 = .ok (.iload_n 2, 1) := by decide +kernel
theorem dX10_isThere_9 : decode cX10_isThere 9 = .ok (.invokestatic 152, 3) := by decide +kernel
theorem dX10_isThere_12 : decode cX10_isThere 12 = .ok (.ifCond .eq 7, 3) := by decide +kernel
theorem dX10_isThere_15 : decode cX10_isThere 15 = .ok (.iconst 0, 1) := by decide +kernel
theorem dX10_isThere_16 : decode cX10_isThere 16 = .ok (.goto 4, 3) := by decide +kernel
theorem dX10_isThere_19 : decode cX10_isThere 19 = .ok (.iconst 1, 1) := by decide +kernel
theorem dX10_isThere_20 : decode cX10_isThere 20 = .ok (.putfield 48, 3) := by decide +kernel
theorem dX10_isThere_23 : decode cX10_isThere 23 = .ok (.aload_n 0, 1) := by decide +kernel
theorem dX10_isThere_24 : decode cX10_isThere 24 = .ok (.getfield 48, 3) := by decide +kernel
theorem dX10_isThere_27 : decode cX10_isThere 27 = .ok (.ifCond .ne 7, 3) := by decide +kernel
theorem dX10_isThere_30 : decode cX10_isThere 30 = .ok (.iconst 1, 1) := by decide +kernel
theorem dX10_isThere_31 : decode cX10_isThere 31 = .ok (.goto 4, 3) := by decide +kernel
theorem dX10_isThere_34 : decode cX10_isThere 34 = .ok (.iconst 0, 1) := by decide +kernel
theorem dX10_isThere_35 : decode cX10_isThere 35 = .ok (.ireturn, 1) := by decide +kernel
set_option maxRecDepth 20000 in
theorem ggX10_piecesOn_X10_isThere : GoodIn wsX10_piecesOn wsX10_isThere := goodIn_r _ [5, 6, 7, 8, 4, 9, 10, 11, 12, 13, 14, 15, 21, 22, 23, 24, 25, 26, 27, 28, 29, 30, 31, 32, 33, 34, 35, 36, 37, 38, 39, 40] (by decide +kernel) (by decide +kernel)
set_option maxRecDepth 20000 in
theorem gX10_piecesOn_X10_isThere : GoodIn wsX10_piecesOn (wsV RX10 203 RX10 yX10_isThere wsX10_isThere) := goodIn_app (goodIn_of _ (by decide +kernel)) ggX10_piecesOn_X10_isThere
set_option maxRecDepth 20000 in
theorem ggX10_piecesOn_X10_at : GoodIn wsX10_piecesOn wsX10_at := goodIn_r _ [19, 20, 21, 22, 23, 24, 25, 26, 27, 28, 29, 30, 31, 32, 33, 34, 35, 36, 37, 38, 39, 40] (by decide +kernel) (by decide +kernel)
set_option maxRecDepth 20000 in
theorem gX10_piecesOn_X10_at : GoodIn wsX10_piecesOn (wsV RX10 66 RX10 yX10_at wsX10_at) := goodIn_app (goodIn_of _ (by decide +kernel)) ggX10_piecesOn_X10_at
theorem dX10_piecesOn_0 : decode cX10_piecesOn 0 = .ok (.aload_n 0, 1) := by decide +kernel
theorem dX10_piecesOn_1 : decode cX10_piecesOn 1 = .ok (.iload_n 1, 1) := by decide +kernel
theorem dX10_piecesOn_2 : decode cX10_piecesOn 2 = .ok (.iload_n 2, 1) := by decide +kernel
theorem dX10_piecesOn_3 : decode cX10_piecesOn 3 = .ok (.invokevirtual 203, 3) := by decide +kernel
theorem dX10_piecesOn_6 : decode cX10_piecesOn 6 = .ok (.ifCond .eq 12, 3) := by decide +kernel
theorem dX10_piecesOn_9 : decode cX10_piecesOn 9 = .ok (.aload_n 0, 1) := by decide +kernel
theorem dX10_piecesOn_10 : decode cX10_piecesOn 10 = .ok (.iload_n 1, 1) := by decide +kernel
theorem dX10_piecesOn_11 : decode cX10_piecesOn 11 = .ok (.iload_n 2, 1) := by decide +kernel
theorem dX10_piecesOn_12 : decode cX10_piecesOn 12 = .ok (.invokevirtual 66, 3) := by decide +kernel
theorem dX10_piecesOn_15 : decode cX10_piecesOn 15 = .ok (.goto 4, 3) := by decide +kernel
theorem dX10_piecesOn_18 : decode cX10_piecesOn 18 = .ok (.iconst 0, 1) := by decide +kernel
theorem dX10_piecesOn_19 : decode cX10_piecesOn 19 = .ok (.ireturn, 1) := by decide +kernel
set_option maxRecDepth 20000 in
theorem ggX10_onBar_X10_isThere : GoodIn wsX10_onBar wsX10_isThere := goodIn_r _ [5, 6, 7, 8, 4, 9, 10, 11, 12, 13, 14, 15, 21, 22, 23, 24, 25, 26, 27, 28, 29, 30, 31, 32, 33, 34, 35, 36, 37, 38, 39, 40] (by decide +kernel) (by decide +kernel)
set_option maxRecDepth 20000 in
theorem gX10_onBar_X10_isThere : GoodIn wsX10_onBar (wsV RX10 203 RX10 yX10_isThere wsX10_isThere) := goodIn_app (goodIn_of _ (by decide +kernel)) ggX10_onBar_X10_isThere
set_option maxRecDepth 20000 in
theorem ggX10_onBar_X10_at : GoodIn wsX10_onBar wsX10_at := goodIn_r _ [19, 20, 21, 22, 23, 24, 25, 26, 27, 28, 29, 30, 31, 32, 33, 34, 35, 36, 37, 38, 39, 40] (by decide +kernel) (by decide +kernel)
set_option maxRecDepth 20000 in
theorem gX10_onBar_X10_at : GoodIn wsX10_onBar (wsV RX10 66 RX10 yX10_at wsX10_at) := goodIn_app (goodIn_of _ (by decide +kernel)) ggX10_onBar_X10_at
theorem dX10_onBar_0 : decode cX10_onBar 0 = .ok (.aload_n 0, 1) := by decide +kernel
theorem dX10_onBar_1 : decode cX10_onBar 1 = .ok (.iload_n 1, 1) := by decide +kernel
theorem dX10_onBar_2 : decode cX10_onBar 2 = .ok (.iconst 0, 1) := by decide +kernel
theorem dX10_onBar_3 : decode cX10_onBar 3 = .ok (.invokevirtual 203, 3) := by decide +kernel
theorem dX10_onBar_6 : decode cX10_onBar 6 = .ok (.ifCond .eq 12, 3) := by decide +kernel
theorem dX10_onBar_9 : decode cX10_onBar 9 = .ok (.aload_n 0, 1) := by decide +kernel
theorem dX10_onBar_10 : decode cX10_onBar 10 = .ok (.iload_n 1, 1) := by decide +kernel
theorem dX10_onBar_11 : decode cX10_onBar 11 = .ok (.iconst (-1), 1) := by decide +kernel
theorem dX10_onBar_12 : decode cX10_onBar 12 = .ok (.invokevirtual 66, 3) := by decide +kernel
theorem dX10_onBar_15 : decode cX10_onBar 15 = .ok (.goto 4, 3) := by decide +kernel
theorem dX10_onBar_18 : decode cX10_onBar 18 = .ok (.iconst 0, 1) := by decide +kernel
theorem dX10_onBar_19 : decode cX10_onBar 19 = .ok (.ireturn, 1) := by decide +kernel
set_option maxRecDepth 20000 in
theorem ggX10_borneOff_X10_isThere : GoodIn wsX10_borneOff wsX10_isThere := goodIn_r _ [5, 6, 7, 8, 4, 9, 10, 11, 12, 13, 14, 15, 21, 22, 23, 24, 25, 26, 27, 28, 29, 30, 31, 32, 33, 34, 35, 36, 37, 38, 39, 40] (by decide +kernel) (by decide +kernel)
set_option maxRecDepth 20000 in
theorem gX10_borneOff_X10_isThere : GoodIn wsX10_borneOff (wsV RX10 203 RX10 yX10_isThere wsX10_isThere) := goodIn_app (goodIn_of _ (by decide +kernel)) ggX10_borneOff_X10_isThere
set_option maxRecDepth 20000 in
theorem ggX10_borneOff_X10_at : GoodIn wsX10_borneOff wsX10_at := goodIn_r _ [19, 20, 21, 22, 23, 24, 25, 26, 27, 28, 29, 30, 31, 32, 33, 34, 35, 36, 37, 38, 39, 40] (by decide +kernel) (by decide +kernel)
set_option maxRecDepth 20000 in
theorem gX10_borneOff_X10_at : GoodIn wsX10_borneOff (wsV RX10 66 RX10 yX10_at wsX10_at) := goodIn_app (goodIn_of _ (by decide +kernel)) ggX10_borneOff_X10_at
theorem dX10_borneOff_0 : decode cX10_borneOff 0 = .ok (.aload_n 0, 1) := by decide +kernel
theorem dX10_borneOff_1 : decode cX10_borneOff 1 = .ok (.iload_n 1, 1) := by decide +kernel
theorem dX10_borneOff_2 : decode cX10_borneOff 2 = .ok (.iconst 0, 1) := by decide +kernel
theorem dX10_borneOff_3 : decode cX10_borneOff 3 = .ok (.invokevirtual 203, 3) := by decide +kernel
theorem dX10_borneOff_6 : decode cX10_borneOff 6 = .ok (.ifCond .eq 13, 3) := by decide +kernel
theorem dX10_borneOff_9 : decode cX10_borneOff 9 = .ok (.aload_n 0, 1) := by decide +kernel
theorem dX10_borneOff_10 : decode cX10_borneOff 10 = .ok (.iload_n 1, 1) := by decide +kernel
theorem dX10_borneOff_11 : decode cX10_borneOff 11 = .ok (.bipush 16, 2) := by decide +kernel
theorem dX10_borneOff_13 : decode cX10_borneOff 13 = .ok (.invokevirtual 66, 3) := by decide +kernel
theorem dX10_borneOff_16 : decode cX10_borneOff 16 = .ok (.goto 4, 3) := by decide +kernel
theorem dX10_borneOff_19 : decode cX10_borneOff 19 = .ok (.iconst 0, 1) := by decide +kernel
theorem dX10_borneOff_20 : decode cX10_borneOff 20 = .ok (.ireturn, 1) := by decide +kernel
set_option maxRecDepth 20000 in
theorem ggX10_pips_X10_isThere : GoodIn wsX10_pips wsX10_isThere := goodIn_r _ [5, 6, 7, 8, 4, 9, 10, 11, 12, 13, 14, 15, 28, 29, 30, 31, 32, 33, 34, 35, 36, 37, 38, 39, 40, 41, 42, 43, 44, 45, 46, 47] (by decide +kernel) (by decide +kernel)
set_option maxRecDepth 20000 in
theorem gX10_pips_X10_isThere : GoodIn wsX10_pips (wsV RX10 203 RX10 yX10_isThere wsX10_isThere) := goodIn_app (goodIn_of _ (by decide +kernel)) ggX10_pips_X10_isThere
set_option maxRecDepth 20000 in
theorem ggX10_pips_X10_pip : GoodIn wsX10_pips wsX10_pip := goodIn_r _ [19, 20, 21, 22, 4, 23, 24, 25, 26, 27, 28, 29, 30, 31, 32, 33, 34, 35, 36, 37, 38, 39, 40, 41, 42, 43, 44, 45, 46, 47] (by decide +kernel) (by decide +kernel)
set_option maxRecDepth 20000 in
theorem gX10_pips_X10_pip : GoodIn wsX10_pips (wsV RX10 155 RX10 yX10_pip wsX10_pip) := goodIn_app (goodIn_of _ (by decide +kernel)) ggX10_pips_X10_pip
theorem dX10_pips_0 : decode cX10_pips 0 = .ok (.aload_n 0, 1) := by decide +kernel
theorem dX10_pips_1 : decode cX10_pips 1 = .ok (.iload_n 1, 1) := by decide +kernel
theorem dX10_pips_2 : decode cX10_pips 2 = .ok (.iconst 0, 1) := by decide +kernel
theorem dX10_pips_3 : decode cX10_pips 3 = .ok (.invokevirtual 203, 3) := by decide +kernel
theorem dX10_pips_6 : decode cX10_pips 6 = .ok (.ifCond .eq 11, 3) := by decide +kernel
theorem dX10_pips_9 : decode cX10_pips 9 = .ok (.aload_n 0, 1) := by decide +kernel
theorem dX10_pips_10 : decode cX10_pips 10 = .ok (.iload_n 1, 1) := by decide +kernel
theorem dX10_pips_11 : decode cX10_pips 11 = .ok (.invokevirtual 155, 3) := by decide +kernel
theorem dX10_pips_14 : decode cX10_pips 14 = .ok (.goto 4, 3) := by decide +kernel
theorem dX10_pips_17 : decode cX10_pips 17 = .ok (.iconst 0, 1) := by decide +kernel
theorem dX10_pips_18 : decode cX10_pips 18 = .ok (.ireturn, 1) := by decide +kernel
set_option maxRecDepth 20000 in
theorem ggX10_blot_X10_at : GoodIn wsX10_blot wsX10_at := goodIn_r _ [5, 6, 7, 8, 9, 10, 11, 12, 13, 14, 15, 16, 17, 18, 19, 20, 21, 22, 23, 24, 25, 26] (by decide +kernel) (by decide +kernel)
set_option maxRecDepth 20000 in
theorem gX10_blot_X10_at : GoodIn wsX10_blot (wsV RX10 66 RX10 yX10_at wsX10_at) := goodIn_app (goodIn_of _ (by decide +kernel)) ggX10_blot_X10_at
theorem dX10_blot_0 : decode cX10_blot 0 = .ok (.iconst 0, 1) := by decide +kernel
theorem dX10_blot_1 : decode cX10_blot 1 = .ok (.istore_n 2, 1) := by decide +kernel
theorem dX10_blot_2 : decode cX10_blot 2 = .ok (.iconst 0, 1) := by decide +kernel
theorem dX10_blot_3 : decode cX10_blot 3 = .ok (.istore_n 3, 1) := by decide +kernel
theorem dX10_blot_4 : decode cX10_blot 4 = .ok (.iload_n 3, 1) := by decide +kernel
theorem dX10_blot_5 : decode cX10_blot 5 = .ok (.bipush 16, 2) := by decide +kernel
theorem dX10_blot_7 : decode cX10_blot 7 = .ok (.if_icmp .ge 27, 3) := by decide +kernel
theorem dX10_blot_10 : decode cX10_blot 10 = .ok (.iload_n 2, 1) := by decide +kernel
theorem dX10_blot_11 : decode cX10_blot 11 = .ok (.aload_n 0, 1) := by decide +kernel
theorem dX10_blot_12 : decode cX10_blot 12 = .ok (.iload_n 1, 1) := by decide +kernel
theorem dX10_blot_13 : decode cX10_blot 13 = .ok (.iload_n 3, 1) := by decide +kernel
theorem dX10_blot_14 : decode cX10_blot 14 = .ok (.invokevirtual 66, 3) := by decide +kernel
theorem dX10_blot_17 : decode cX10_blot 17 = .ok (.iconst 1, 1) := by decide +kernel
theorem dX10_blot_18 : decode cX10_blot 18 = .ok (.if_icmp .ne 7, 3) := by decide +kernel
theorem dX10_blot_21 : decode cX10_blot 21 = .ok (.iconst 1, 1) := by decide +kernel
theorem dX10_blot_22 : decode cX10_blot 22 = .ok (.goto 4, 3) := by decide +kernel
theorem dX10_blot_25 : decode cX10_blot 25 = .ok (.iconst 0, 1) := by decide +kernel
theorem dX10_blot_26 : decode cX10_blot 26 = .ok (.iadd, 1) := by decide +kernel
theorem dX10_blot_27 : decode cX10_blot 27 = .ok (.istore_n 2, 1) := by decide +kernel
theorem dX10_blot_28 : decode cX10_blot 28 = .ok (.iinc 3 1, 3) := by decide +kernel
theorem dX10_blot_31 : decode cX10_blot 31 = .ok (.goto (-27), 3) := by decide +kernel
theorem dX10_blot_34 : decode cX10_blot 34 = .ok (.iload_n 2, 1) := by decide +kernel
theorem dX10_blot_35 : decode cX10_blot 35 = .ok (.ireturn, 1) := by decide +kernel
set_option maxRecDepth 20000 in
theorem ggX10_blots_X10_isThere : GoodIn wsX10_blots wsX10_isThere := goodIn_r _ [5, 6, 7, 8, 4, 9, 10, 11, 12, 13, 14, 15, 25, 26, 27, 28, 29, 30, 31, 32, 33, 34, 35, 36, 37, 38, 39, 40, 41, 42, 43, 44] (by decide +kernel) (by decide +kernel)
set_option maxRecDepth 20000 in
theorem gX10_blots_X10_isThere : GoodIn wsX10_blots (wsV RX10 203 RX10 yX10_isThere wsX10_isThere) := goodIn_app (goodIn_of _ (by decide +kernel)) ggX10_blots_X10_isThere
set_option maxRecDepth 20000 in
theorem ggX10_blots_X10_blot : GoodIn wsX10_blots wsX10_blot := goodIn_r _ [19, 20, 21, 22, 4, 23, 24, 25, 26, 27, 28, 29, 30, 31, 32, 33, 34, 35, 36, 37, 38, 39, 40, 41, 42, 43, 44] (by decide +kernel) (by decide +kernel)
set_option maxRecDepth 20000 in
theorem gX10_blots_X10_blot : GoodIn wsX10_blots (wsV RX10 206 RX10 yX10_blot wsX10_blot) := goodIn_app (goodIn_of _ (by decide +kernel)) ggX10_blots_X10_blot
theorem dX10_blots_0 : decode cX10_blots 0 = .ok (.aload_n 0, 1) := by decide +kernel
theorem dX10_blots_1 : decode cX10_blots 1 = .ok (.iload_n 1, 1) := by decide +kernel
theorem dX10_blots_2 : decode cX10_blots 2 = .ok (.iconst 0, 1) := by decide +kernel
theorem dX10_blots_3 : decode cX10_blots 3 = .ok (.invokevirtual 203, 3) := by decide +kernel
theorem dX10_blots_6 : decode cX10_blots 6 = .ok (.ifCond .eq 11, 3) := by decide +kernel
theorem dX10_blots_9 : decode cX10_blots 9 = .ok (.aload_n 0, 1) := by decide +kernel
theorem dX10_blots_10 : decode cX10_blots 10 = .ok (.iload_n 1, 1) := by decide +kernel
theorem dX10_blots_11 : decode cX10_blots 11 = .ok (.invokevirtual 206, 3) := by decide +kernel
theorem dX10_blots_14 : decode cX10_blots 14 = .ok (.goto 4, 3) := by decide +kernel
theorem dX10_blots_17 : decode cX10_blots 17 = .ok (.iconst 0, 1) := by decide +kernel
theorem dX10_blots_18 : decode cX10_blots 18 = .ok (.ireturn, 1) := by decide +kernel
set_option maxRecDepth 20000 in
theorem ggX10_wall_X10_isBlock : GoodIn wsX10_wall wsX10_isBlock := goodIn_r _ [5, 6, 7, 8, 4, 9, 10, 11, 12, 13, 14, 15, 16, 17, 18, 19, 20, 21, 22, 23, 24, 25, 26, 27, 28, 29, 30] (by decide +kernel) (by decide +kernel)
set_option maxRecDepth 20000 in
theorem gX10_wall_X10_isBlock : GoodIn wsX10_wall (wsV RX10 77 RX10 yX10_isBlock wsX10_isBlock) := goodIn_app (goodIn_of _ (by decide +kernel)) ggX10_wall_X10_isBlock
theorem dX10_wall_0 : decode cX10_wall 0 = .ok (.iconst 0, 1) := by decide +kernel
theorem dX10_wall_1 : decode cX10_wall 1 = .ok (.istore_n 2, 1) := by decide +kernel
theorem dX10_wall_2 : decode cX10_wall 2 = .ok (.iconst 0, 1) := by decide +kernel
theorem dX10_wall_3 : decode cX10_wall 3 = .ok (.istore_n 3, 1) := by decide +kernel
theorem dX10_wall_4 : decode cX10_wall 4 = .ok (.iconst 0, 1) := by decide +kernel
theorem dX10_wall_5 : decode cX10_wall 5 = .ok (.istore 4, 2) := by decide +kernel
theorem dX10_wall_7 : decode cX10_wall 7 = .ok (.iload 4, 2) := by decide +kernel
theorem dX10_wall_9 : decode cX10_wall 9 = .ok (.bipush 16, 2) := by decide +kernel
theorem dX10_wall_11 : decode cX10_wall 11 = .ok (.if_icmp .ge 38, 3) := by decide +kernel
theorem dX10_wall_14 : decode cX10_wall 14 = .ok (.aload_n 0, 1) := by decide +kernel
theorem dX10_wall_15 : decode cX10_wall 15 = .ok (.iload_n 1, 1) := by decide +kernel
theorem dX10_wall_16 : decode cX10_wall 16 = .ok (.iload 4, 2) := by decide +kernel
theorem dX10_wall_18 : decode cX10_wall 18 = .ok (.invokevirtual 77, 3) := by decide +kernel
theorem dX10_wall_21 : decode cX10_wall 21 = .ok (.ifCond .eq 9, 3) := by decide +kernel
theorem dX10_wall_24 : decode cX10_wall 24 = .ok (.iload_n 3, 1) := by decide +kernel
theorem dX10_wall_25 : decode cX10_wall 25 = .ok (.iconst 1, 1) := by decide +kernel
theorem dX10_wall_26 : decode cX10_wall 26 = .ok (.iadd, 1) := by decide +kernel
theorem dX10_wall_27 : decode cX10_wall 27 = .ok (.goto 4, 3) := by decide +kernel
theorem dX10_wall_30 : decode cX10_wall 30 = .ok (.iconst 0, 1) := by decide +kernel
theorem dX10_wall_31 : decode cX10_wall 31 = .ok (.istore_n 3, 1) := by decide +kernel
theorem dX10_wall_32 : decode cX10_wall 32 = .ok (.iload_n 3, 1) := by decide +kernel
theorem dX10_wall_33 : decode cX10_wall 33 = .ok (.iload_n 2, 1) := by decide +kernel
theorem dX10_wall_34 : decode cX10_wall 34 = .ok (.if_icmp .le 7, 3) := by decide +kernel
theorem dX10_wall_37 : decode cX10_wall 37 = .ok (.iload_n 3, 1) := by decide +kernel
theorem dX10_wall_38 : decode cX10_wall 38 = .ok (.goto 4, 3) := by decide +kernel
theorem dX10_wall_41 : decode cX10_wall 41 = .ok (.iload_n 2, 1) := by decide +kernel
theorem dX10_wall_42 : decode cX10_wall 42 = .ok (.istore_n 2, 1) := by decide +kernel
theorem dX10_wall_43 : decode cX10_wall 43 = .ok (.iinc 4 1, 3) := by decide +kernel
theorem dX10_wall_46 : decode cX10_wall 46 = .ok (.goto (-39), 3) := by decide +kernel
theorem dX10_wall_49 : decode cX10_wall 49 = .ok (.iload_n 2, 1) := by decide +kernel
theorem dX10_wall_50 : decode cX10_wall 50 = .ok (.ireturn, 1) := by decide +kernel
set_option maxRecDepth 20000 in
theorem ggX10_blockade_X10_isThere : GoodIn wsX10_blockade wsX10_isThere := goodIn_r _ [5, 6, 7, 8, 4, 9, 10, 11, 12, 13, 14, 15, 29, 30, 31, 32, 33, 34, 35, 36, 37, 38, 39, 40, 41, 42, 43, 44, 45, 46, 47, 48] (by decide +kernel) (by decide +kernel)
set_option maxRecDepth 20000 in
theorem gX10_blockade_X10_isThere : GoodIn wsX10_blockade (wsV RX10 203 RX10 yX10_isThere wsX10_isThere) := goodIn_app (goodIn_of _ (by decide +kernel)) ggX10_blockade_X10_isThere
set_option maxRecDepth 20000 in
theorem ggX10_blockade_X10_wall : GoodIn wsX10_blockade wsX10_wall := goodIn_r _ [19, 20, 21, 22, 4, 23, 24, 25, 26, 27, 28, 29, 30, 31, 32, 33, 34, 35, 36, 37, 38, 39, 40, 41, 42, 43, 44, 45, 46, 47, 48] (by decide +kernel) (by decide +kernel)
set_option maxRecDepth 20000 in
theorem gX10_blockade_X10_wall : GoodIn wsX10_blockade (wsV RX10 209 RX10 yX10_wall wsX10_wall) := goodIn_app (goodIn_of _ (by decide +kernel)) ggX10_blockade_X10_wall
theorem dX10_blockade_0 : decode cX10_blockade 0 = .ok (.aload_n 0, 1) := by decide +kernel
theorem dX10_blockade_1 : decode cX10_blockade 1 = .ok (.iload_n 1, 1) := by decide +kernel
theorem dX10_blockade_2 : decode cX10_blockade 2 = .ok (.iconst 0, 1) := by decide +kernel
theorem dX10_blockade_3 : decode cX10_blockade 3 = .ok (.invokevirtual 203, 3) := by decide +kernel
theorem dX10_blockade_6 : decode cX10_blockade 6 = .ok (.ifCond .eq 11, 3) := by decide +kernel
theorem dX10_blockade_9 : decode cX10_blockade 9 = .ok (.aload_n 0, 1) := by decide +kernel
theorem dX10_blockade_10 : decode cX10_blockade 10 = .ok (.iload_n 1, 1) := by decide +kernel
theorem dX10_blockade_11 : decode cX10_blockade 11 = .ok (.invokevirtual 209, 3) := by decide +kernel
theorem dX10_blockade_14 : decode cX10_blockade 14 = .ok (.goto 4, 3) := by decide +kernel
theorem dX10_blockade_17 : decode cX10_blockade 17 = .ok (.iconst 0, 1) := by decide +kernel
theorem dX10_blockade_18 : decode cX10_blockade 18 = .ok (.ireturn, 1) := by decide +kernel
theorem dX10_stake_0 : decode cX10_stake 0 = .ok (.aload_n 0, 1) := by decide +kernel
theorem dX10_stake_1 : decode cX10_stake 1 = .ok (.iconst 0, 1) := by decide +kernel
theorem dX10_stake_2 : decode cX10_stake 2 = .ok (.putfield 48, 3) := by decide +kernel
theorem dX10_stake_5 : decode cX10_stake 5 = .ok (.aload_n 0, 1) := by decide +kernel
theorem dX10_stake_6 : decode cX10_stake 6 = .ok (.getfield 7, 3) := by decide +kernel
theorem dX10_stake_9 : decode cX10_stake 9 = .ok (.bipush 43, 2) := by decide +kernel
theorem dX10_stake_11 : decode cX10_stake 11 = .ok (.iaload, 1) := by decide +kernel
theorem dX10_stake_12 : decode cX10_stake 12 = .ok (.ireturn, 1) := by decide +kernel
theorem dX10_cubeOf_0 : decode cX10_cubeOf 0 = .ok (.aload_n 0, 1) := by decide +kernel
theorem dX10_cubeOf_1 : decode cX10_cubeOf 1 = .ok (.iconst 0, 1) := by decide +kernel
theorem dX10_cubeOf_2 : decode cX10_cubeOf 2 = .ok (.putfield 48, 3) := by decide +kernel
theorem dX10_cubeOf_5 : decode cX10_cubeOf 5 = .ok (.aload_n 0, 1) := by decide +kernel
theorem dX10_cubeOf_6 : decode cX10_cubeOf 6 = .ok (.getfield 7, 3) := by decide +kernel
theorem dX10_cubeOf_9 : decode cX10_cubeOf 9 = .ok (.bipush 44, 2) := by decide +kernel
theorem dX10_cubeOf_11 : decode cX10_cubeOf 11 = .ok (.iaload, 1) := by decide +kernel
theorem dX10_cubeOf_12 : decode cX10_cubeOf 12 = .ok (.ireturn, 1) := by decide +kernel
set_option maxRecDepth 20000 in
theorem ggX10_score_X10_isThere : GoodIn wsX10_score wsX10_isThere := goodIn_r _ [6, 7, 8, 9, 5, 10, 11, 12, 13, 14, 15, 16, 17, 18, 19, 20, 21, 22, 23, 24, 25, 26, 27, 28, 29, 30, 31, 32, 33, 34, 35, 36] (by decide +kernel) (by decide +kernel)
set_option maxRecDepth 20000 in
theorem gX10_score_X10_isThere : GoodIn wsX10_score (wsV RX10 203 RX10 yX10_isThere wsX10_isThere) := goodIn_app (goodIn_of _ (by decide +kernel)) ggX10_score_X10_isThere
theorem dX10_score_0 : decode cX10_score 0 = .ok (.aload_n 0, 1) := by decide +kernel
theorem dX10_score_1 : decode cX10_score 1 = .ok (.iload_n 1, 1) := by decide +kernel
theorem dX10_score_2 : decode cX10_score 2 = .ok (.iconst 0, 1) := by decide +kernel
theorem dX10_score_3 : decode cX10_score 3 = .ok (.invokevirtual 203, 3) := by decide +kernel
theorem dX10_score_6 : decode cX10_score 6 = .ok (.ifCond .eq 15, 3) := by decide +kernel
theorem dX10_score_9 : decode cX10_score 9 = .ok (.aload_n 0, 1) := by decide +kernel
theorem dX10_score_10 : decode cX10_score 10 = .ok (.getfield 7, 3) := by decide +kernel
theorem dX10_score_13 : decode cX10_score 13 = .ok (.bipush 45, 2) := by decide +kernel
theorem dX10_score_15 : decode cX10_score 15 = .ok (.iload_n 1, 1) := by decide +kernel
theorem dX10_score_16 : decode cX10_score 16 = .ok (.iadd, 1) := by decide +kernel
theorem dX10_score_17 : decode cX10_score 17 = .ok (.iaload, 1) := by decide +kernel
theorem dX10_score_18 : decode cX10_score 18 = .ok (.goto 4, 3) := by decide +kernel
theorem dX10_score_21 : decode cX10_score 21 = .ok (.iconst 0, 1) := by decide +kernel
theorem dX10_score_22 : decode cX10_score 22 = .ok (.ireturn, 1) := by decide +kernel
set_option maxRecDepth 20000 in
theorem ggX10_hits_X10_isThere : GoodIn wsX10_hits wsX10_isThere := goodIn_r _ [6, 7, 8, 9, 5, 10, 11, 12, 13, 14, 15, 16, 17, 18, 19, 20, 21, 22, 23, 24, 25, 26, 27, 28, 29, 30, 31, 32, 33, 34, 35, 36] (by decide +kernel) (by decide +kernel)
set_option maxRecDepth 20000 in
theorem gX10_hits_X10_isThere : GoodIn wsX10_hits (wsV RX10 203 RX10 yX10_isThere wsX10_isThere) := goodIn_app (goodIn_of _ (by decide +kernel)) ggX10_hits_X10_isThere
theorem dX10_hits_0 : decode cX10_hits 0 = .ok (.aload_n 0, 1) := by decide +kernel
theorem dX10_hits_1 : decode cX10_hits 1 = .ok (.iload_n 1, 1) := by decide +kernel
theorem dX10_hits_2 : decode cX10_hits 2 = .ok (.iconst 0, 1) := by decide +kernel
theorem dX10_hits_3 : decode cX10_hits 3 = .ok (.invokevirtual 203, 3) := by decide +kernel
theorem dX10_hits_6 : decode cX10_hits 6 = .ok (.ifCond .eq 15, 3) := by decide +kernel
theorem dX10_hits_9 : decode cX10_hits 9 = .ok (.aload_n 0, 1) := by decide +kernel
theorem dX10_hits_10 : decode cX10_hits 10 = .ok (.getfield 7, 3) := by decide +kernel
theorem dX10_hits_13 : decode cX10_hits 13 = .ok (.bipush 47, 2) := by decide +kernel
theorem dX10_hits_15 : decode cX10_hits 15 = .ok (.iload_n 1, 1) := by decide +kernel
theorem dX10_hits_16 : decode cX10_hits 16 = .ok (.iadd, 1) := by decide +kernel
theorem dX10_hits_17 : decode cX10_hits 17 = .ok (.iaload, 1) := by decide +kernel
theorem dX10_hits_18 : decode cX10_hits 18 = .ok (.goto 4, 3) := by decide +kernel
theorem dX10_hits_21 : decode cX10_hits 21 = .ok (.iconst 0, 1) := by decide +kernel
theorem dX10_hits_22 : decode cX10_hits 22 = .ok (.ireturn, 1) := by decide +kernel
set_option maxRecDepth 20000 in
theorem ggX10_whyNoStep_X10_fault : GoodIn wsX10_whyNoStep wsX10_fault := goodIn_r _ [5, 6, 7, 4, 8] (by decide +kernel) (by decide +kernel)
set_option maxRecDepth 20000 in
theorem gX10_whyNoStep_X10_fault : GoodIn wsX10_whyNoStep (va_wsS RX10 134 yX10_fault wsX10_fault) := goodIn_app (goodIn_of _ (by decide +kernel)) ggX10_whyNoStep_X10_fault
set_option maxRecDepth 20000 in
theorem ggX10_whyNoStep_X10_why : GoodIn wsX10_whyNoStep wsX10_why := goodIn_r _ [12, 13, 14, 15, 16, 4, 17, 18, 19, 20, 21, 22, 23, 24, 25, 26, 27, 28, 29, 30, 31, 32, 33, 34, 35, 36, 37, 38, 39, 40, 41, 42, 43, 44, 45, 46, 47, 48, 49, 50, 51, 52, 53, 54, 55, 56, 57, 58, 59, 60, 61, 62, 63, 64, 65, 66, 67, 68, 69, 70, 71, 72, 73, 74, 75, 76, 77, 78, 79, 80, 81, 82, 83, 84, 85, 86, 87, 88, 89, 90, 91, 92, 93, 94, 95, 96, 97, 98, 99, 100] (by decide +kernel) (by decide +kernel)
set_option maxRecDepth 20000 in
theorem gX10_whyNoStep_X10_why : GoodIn wsX10_whyNoStep (wsV RX10 137 RX10 yX10_why wsX10_why) := goodIn_app (goodIn_of _ (by decide +kernel)) ggX10_whyNoStep_X10_why
theorem dX10_whyNoStep_0 : decode cX10_whyNoStep 0 = .ok (.aload_n 0, 1) := by decide +kernel
theorem dX10_whyNoStep_1 : decode cX10_whyNoStep 1 = .ok (.iload_n 1, 1) := by decide +kernel
theorem dX10_whyNoStep_2 : decode cX10_whyNoStep 2 = .ok (.iload_n 2, 1) := by decide +kernel
theorem dX10_whyNoStep_3 : decode cX10_whyNoStep 3 = .ok (.invokestatic 134, 3) := by decide +kernel
theorem dX10_whyNoStep_6 : decode cX10_whyNoStep 6 = .ok (.putfield 48, 3) := by decide +kernel
theorem dX10_whyNoStep_9 : decode cX10_whyNoStep 9 = .ok (.aload_n 0, 1) := by decide +kernel
theorem dX10_whyNoStep_10 : decode cX10_whyNoStep 10 = .ok (.getfield 48, 3) := by decide +kernel
theorem dX10_whyNoStep_13 : decode cX10_whyNoStep 13 = .ok (.ifCond .ne 12, 3) := by decide +kernel
theorem dX10_whyNoStep_16 : decode cX10_whyNoStep 16 = .ok (.aload_n 0, 1) := by decide +kernel
theorem dX10_whyNoStep_17 : decode cX10_whyNoStep 17 = .ok (.iload_n 1, 1) := by decide +kernel
theorem dX10_whyNoStep_18 : decode cX10_whyNoStep 18 = .ok (.iload_n 2, 1) := by decide +kernel
theorem dX10_whyNoStep_19 : decode cX10_whyNoStep 19 = .ok (.invokevirtual 137, 3) := by decide +kernel
theorem dX10_whyNoStep_22 : decode cX10_whyNoStep 22 = .ok (.goto 4, 3) := by decide +kernel
theorem dX10_whyNoStep_25 : decode cX10_whyNoStep 25 = .ok (.iconst 0, 1) := by decide +kernel
theorem dX10_whyNoStep_26 : decode cX10_whyNoStep 26 = .ok (.ireturn, 1) := by decide +kernel
set_option maxRecDepth 20000 in
theorem ggX10_possible_X10_why : GoodIn wsX10_possible wsX10_why := goodIn_r _ [5, 6, 7, 8, 9, 4, 10, 11, 12, 13, 14, 15, 16, 17, 18, 19, 20, 21, 22, 23, 24, 25, 26, 27, 28, 29, 30, 31, 32, 33, 34, 35, 36, 37, 38, 39, 40, 41, 42, 43, 44, 45, 46, 47, 48, 49, 50, 51, 52, 53, 54, 55, 56, 57, 58, 59, 60, 61, 62, 63, 64, 65, 66, 67, 68, 69, 70, 71, 72, 73, 74, 75, 76, 77, 78, 79, 80, 81, 82, 83, 84, 85, 86, 87, 88, 89, 90, 91, 92, 93] (by decide +kernel) (by decide +kernel)
set_option maxRecDepth 20000 in
theorem gX10_possible_X10_why : GoodIn wsX10_possible (wsV RX10 137 RX10 yX10_why wsX10_why) := goodIn_app (goodIn_of _ (by decide +kernel)) ggX10_possible_X10_why
theorem dX10_possible_0 : decode cX10_possible 0 = .ok (.iconst 0, 1) := by decide +kernel
theorem dX10_possible_1 : decode cX10_possible 1 = .ok (.istore_n 1, 1) := by decide +kernel
theorem dX10_possible_2 : decode cX10_possible 2 = .ok (.iconst 1, 1) := by decide +kernel
theorem dX10_possible_3 : decode cX10_possible 3 = .ok (.istore_n 2, 1) := by decide +kernel
theorem dX10_possible_4 : decode cX10_possible 4 = .ok (.iload_n 2, 1) := by decide +kernel
theorem dX10_possible_5 : decode cX10_possible 5 = .ok (.bipush 6, 2) := by decide +kernel
theorem dX10_possible_7 : decode cX10_possible 7 = .ok (.if_icmp .gt 40, 3) := by decide +kernel
theorem dX10_possible_10 : decode cX10_possible 10 = .ok (.iconst (-1), 1) := by decide +kernel
theorem dX10_possible_11 : decode cX10_possible 11 = .ok (.istore_n 3, 1) := by decide +kernel
theorem dX10_possible_12 : decode cX10_possible 12 = .ok (.iload_n 3, 1) := by decide +kernel
theorem dX10_possible_13 : decode cX10_possible 13 = .ok (.bipush 16, 2) := by decide +kernel
theorem dX10_possible_15 : decode cX10_possible 15 = .ok (.if_icmp .ge 26, 3) := by decide +kernel
theorem dX10_possible_18 : decode cX10_possible 18 = .ok (.iload_n 1, 1) := by decide +kernel
theorem dX10_possible_19 : decode cX10_possible 19 = .ok (.aload_n 0, 1) := by decide +kernel
theorem dX10_possible_20 : decode cX10_possible 20 = .ok (.iload_n 3, 1) := by decide +kernel
theorem dX10_possible_21 : decode cX10_possible 21 = .ok (.iload_n 2, 1) := by decide +kernel
theorem dX10_possible_22 : decode cX10_possible 22 = .ok (.invokevirtual 137, 3) := by decide +kernel
theorem dX10_possible_25 : decode cX10_possible 25 = .ok (.ifCond .ne 7, 3) := by decide +kernel
theorem dX10_possible_28 : decode cX10_possible 28 = .ok (.iconst 1, 1) := by decide +kernel
theorem dX10_possible_29 : decode cX10_possible 29 = .ok (.goto 4, 3) := by decide +kernel
theorem dX10_possible_32 : decode cX10_possible 32 = .ok (.iconst 0, 1) := by decide +kernel
theorem dX10_possible_33 : decode cX10_possible 33 = .ok (.iadd, 1) := by decide +kernel
theorem dX10_possible_34 : decode cX10_possible 34 = .ok (.istore_n 1, 1) := by decide +kernel
theorem dX10_possible_35 : decode cX10_possible 35 = .ok (.iinc 3 1, 3) := by decide +kernel
theorem dX10_possible_38 : decode cX10_possible 38 = .ok (.goto (-26), 3) := by decide +kernel
theorem dX10_possible_41 : decode cX10_possible 41 = .ok (.iinc 2 1, 3) := by decide +kernel
theorem dX10_possible_44 : decode cX10_possible 44 = .ok (.goto (-40), 3) := by decide +kernel
theorem dX10_possible_47 : decode cX10_possible 47 = .ok (.iload_n 1, 1) := by decide +kernel
theorem dX10_possible_48 : decode cX10_possible 48 = .ok (.ireturn, 1) := by decide +kernel
set_option maxRecDepth 20000 in
theorem ggX10_possibleSteps_X10_possible : GoodIn wsX10_possibleSteps wsX10_possible := goodIn_r _ [6, 7, 8, 9, 5, 10, 11, 12, 13, 14, 15, 16, 17, 18, 19, 20, 21, 22, 23, 24, 25, 26, 27, 28, 29, 30, 31, 32, 33, 34, 35, 36, 37, 38, 39, 40, 41, 42, 43, 44, 45, 46, 47, 48, 49, 50, 51, 52, 53, 54, 55, 56, 57, 58, 59, 60, 61, 62, 63, 64, 65, 66, 67, 68, 69, 70, 71, 72, 73, 74, 75, 76, 77, 78, 79, 80, 81, 82, 83, 84, 85, 86, 87, 88, 89, 90, 91, 92, 93, 94, 95, 96, 97, 98] (by decide +kernel) (by decide +kernel)
set_option maxRecDepth 20000 in
theorem gX10_possibleSteps_X10_possible : GoodIn wsX10_possibleSteps (wsV RX10 212 RX10 yX10_possible wsX10_possible) := goodIn_app (goodIn_of _ (by decide +kernel)) ggX10_possibleSteps_X10_possible
theorem dX10_possibleSteps_0 : decode cX10_possibleSteps 0 = .ok (.aload_n 0, 1) := by decide +kernel
theorem dX10_possibleSteps_1 : decode cX10_possibleSteps 1 = .ok (.iconst 0, 1) := by decide +kernel
theorem dX10_possibleSteps_2 : decode cX10_possibleSteps 2 = .ok (.putfield 48, 3) := by decide +kernel
theorem dX10_possibleSteps_5 : decode cX10_possibleSteps 5 = .ok (.aload_n 0, 1) := by decide +kernel
theorem dX10_possibleSteps_6 : decode cX10_possibleSteps 6 = .ok (.invokevirtual 212, 3) := by decide +kernel
theorem dX10_possibleSteps_9 : decode cX10_possibleSteps 9 = .ok (.ireturn, 1) := by decide +kernel
set_option maxRecDepth 20000 in
theorem ggX10_reach_X10_reaches : GoodIn wsX10_reach wsX10_reaches := goodIn_r _ [6, 7, 8, 9, 10, 5, 11, 12, 13, 14, 15, 16, 17, 18, 19, 20, 21, 22, 23, 24, 25, 26, 27, 28, 29, 30, 31, 32, 33, 34, 35, 36, 37, 38, 39, 40, 41, 42, 43, 44, 45, 46, 47, 48, 49, 50, 51, 52, 53, 54, 55, 56, 57, 58, 59, 60, 61, 62, 63, 64, 65, 66, 67, 68, 69, 70, 71, 72, 73, 74, 75, 76, 77, 78, 79, 80, 81, 82] (by decide +kernel) (by decide +kernel)
set_option maxRecDepth 20000 in
theorem gX10_reach_X10_reaches : GoodIn wsX10_reach (wsV RX10 115 RX10 yX10_reaches wsX10_reaches) := goodIn_app (goodIn_of _ (by decide +kernel)) ggX10_reach_X10_reaches
theorem dX10_reach_0 : decode cX10_reach 0 = .ok (.aload_n 0, 1) := by decide +kernel
theorem dX10_reach_1 : decode cX10_reach 1 = .ok (.iconst 0, 1) := by decide +kernel
theorem dX10_reach_2 : decode cX10_reach 2 = .ok (.putfield 48, 3) := by decide +kernel
theorem dX10_reach_5 : decode cX10_reach 5 = .ok (.aload_n 0, 1) := by decide +kernel
theorem dX10_reach_6 : decode cX10_reach 6 = .ok (.invokevirtual 115, 3) := by decide +kernel
theorem dX10_reach_9 : decode cX10_reach 9 = .ok (.ireturn, 1) := by decide +kernel
theorem dX10_told_0 : decode cX10_told 0 = .ok (.lconst 0, 1) := by decide +kernel
theorem dX10_told_1 : decode cX10_told 1 = .ok (.lstore_n 2, 1) := by decide +kernel
theorem dX10_told_2 : decode cX10_told 2 = .ok (.iconst 0, 1) := by decide +kernel
theorem dX10_told_3 : decode cX10_told 3 = .ok (.istore 4, 2) := by decide +kernel
theorem dX10_told_5 : decode cX10_told 5 = .ok (.iload 4, 2) := by decide +kernel
theorem dX10_told_7 : decode cX10_told 7 = .ok (.bipush 18, 2) := by decide +kernel
theorem dX10_told_9 : decode cX10_told 9 = .ok (.if_icmp .ge 30, 3) := by decide +kernel
theorem dX10_told_12 : decode cX10_told 12 = .ok (.lload_n 2, 1) := by decide +kernel
theorem dX10_told_13 : decode cX10_told 13 = .ok (.aload_n 0, 1) := by decide +kernel
theorem dX10_told_14 : decode cX10_told 14 = .ok (.getfield 7, 3) := by decide +kernel
theorem dX10_told_17 : decode cX10_told 17 = .ok (.bipush 18, 2) := by decide +kernel
theorem dX10_told_19 : decode cX10_told 19 = .ok (.iload_n 1, 1) := by decide +kernel
theorem dX10_told_20 : decode cX10_told 20 = .ok (.imul, 1) := by decide +kernel
theorem dX10_told_21 : decode cX10_told 21 = .ok (.iload 4, 2) := by decide +kernel
theorem dX10_told_23 : decode cX10_told 23 = .ok (.iadd, 1) := by decide +kernel
theorem dX10_told_24 : decode cX10_told 24 = .ok (.iaload, 1) := by decide +kernel
theorem dX10_told_25 : decode cX10_told 25 = .ok (.i2l, 1) := by decide +kernel
theorem dX10_told_26 : decode cX10_told 26 = .ok (.iconst 3, 1) := by decide +kernel
theorem dX10_told_27 : decode cX10_told 27 = .ok (.iload 4, 2) := by decide +kernel
theorem dX10_told_29 : decode cX10_told 29 = .ok (.imul, 1) := by decide +kernel
theorem dX10_told_30 : decode cX10_told 30 = .ok (.lshl, 1) := by decide +kernel
theorem dX10_told_31 : decode cX10_told 31 = .ok (.lor, 1) := by decide +kernel
theorem dX10_told_32 : decode cX10_told 32 = .ok (.lstore_n 2, 1) := by decide +kernel
theorem dX10_told_33 : decode cX10_told 33 = .ok (.iinc 4 1, 3) := by decide +kernel
theorem dX10_told_36 : decode cX10_told 36 = .ok (.goto (-31), 3) := by decide +kernel
theorem dX10_told_39 : decode cX10_told 39 = .ok (.lload_n 2, 1) := by decide +kernel
theorem dX10_told_40 : decode cX10_told 40 = .ok (.lreturn, 1) := by decide +kernel
theorem dX10_stands_0 : decode cX10_stands 0 = .ok (.iconst 0, 1) := by decide +kernel
theorem dX10_stands_1 : decode cX10_stands 1 = .ok (.istore 4, 2) := by decide +kernel
theorem dX10_stands_3 : decode cX10_stands 3 = .ok (.iload 4, 2) := by decide +kernel
theorem dX10_stands_5 : decode cX10_stands 5 = .ok (.bipush 18, 2) := by decide +kernel
theorem dX10_stands_7 : decode cX10_stands 7 = .ok (.if_icmp .ge 32, 3) := by decide +kernel
theorem dX10_stands_10 : decode cX10_stands 10 = .ok (.aload_n 0, 1) := by decide +kernel
theorem dX10_stands_11 : decode cX10_stands 11 = .ok (.getfield 7, 3) := by decide +kernel
theorem dX10_stands_14 : decode cX10_stands 14 = .ok (.bipush 18, 2) := by decide +kernel
theorem dX10_stands_16 : decode cX10_stands 16 = .ok (.iload_n 1, 1) := by decide +kernel
theorem dX10_stands_17 : decode cX10_stands 17 = .ok (.imul, 1) := by decide +kernel
theorem dX10_stands_18 : decode cX10_stands 18 = .ok (.iload 4, 2) := by decide +kernel
theorem dX10_stands_20 : decode cX10_stands 20 = .ok (.iadd, 1) := by decide +kernel
theorem dX10_stands_21 : decode cX10_stands 21 = .ok (.lload_n 2, 1) := by decide +kernel
theorem dX10_stands_22 : decode cX10_stands 22 = .ok (.iconst 3, 1) := by decide +kernel
theorem dX10_stands_23 : decode cX10_stands 23 = .ok (.iload 4, 2) := by decide +kernel
theorem dX10_stands_25 : decode cX10_stands 25 = .ok (.imul, 1) := by decide +kernel
theorem dX10_stands_26 : decode cX10_stands 26 = .ok (.lshr, 1) := by decide +kernel
theorem dX10_stands_27 : decode cX10_stands 27 = .ok (.ldc2_w 215, 3) := by decide +kernel
theorem dX10_stands_30 : decode cX10_stands 30 = .ok (.land, 1) := by decide +kernel
theorem dX10_stands_31 : decode cX10_stands 31 = .ok (.l2i, 1) := by decide +kernel
theorem dX10_stands_32 : decode cX10_stands 32 = .ok (.iastore, 1) := by decide +kernel
theorem dX10_stands_33 : decode cX10_stands 33 = .ok (.iinc 4 1, 3) := by decide +kernel
theorem dX10_stands_36 : decode cX10_stands 36 = .ok (.goto (-33), 3) := by decide +kernel
theorem dX10_stands_39 : decode cX10_stands 39 = .ok (.return_, 1) := by decide +kernel
set_option maxRecDepth 20000 in
theorem ggX10_adds_X10_told : GoodIn wsX10_adds wsX10_told := goodIn_r _ [8, 9, 10, 11, 12, 13, 14, 15, 16, 17, 18, 19, 20, 21, 22, 23, 24, 25, 26, 27, 28, 29] (by decide +kernel) (by decide +kernel)
set_option maxRecDepth 20000 in
theorem gX10_adds_X10_told : GoodIn wsX10_adds (wsV RX10 217 RX10 yX10_told wsX10_told) := goodIn_app (goodIn_of _ (by decide +kernel)) ggX10_adds_X10_told
theorem dX10_adds_0 : decode cX10_adds 0 = .ok (.aload_n 0, 1) := by decide +kernel
theorem dX10_adds_1 : decode cX10_adds 1 = .ok (.iconst 0, 1) := by decide +kernel
theorem dX10_adds_2 : decode cX10_adds 2 = .ok (.invokevirtual 217, 3) := by decide +kernel
theorem dX10_adds_5 : decode cX10_adds 5 = .ok (.lstore_n 1, 1) := by decide +kernel
theorem dX10_adds_6 : decode cX10_adds 6 = .ok (.aload_n 0, 1) := by decide +kernel
theorem dX10_adds_7 : decode cX10_adds 7 = .ok (.iconst 1, 1) := by decide +kernel
theorem dX10_adds_8 : decode cX10_adds 8 = .ok (.invokevirtual 217, 3) := by decide +kernel
theorem dX10_adds_11 : decode cX10_adds 11 = .ok (.lstore_n 3, 1) := by decide +kernel
theorem dX10_adds_12 : decode cX10_adds 12 = .ok (.iconst 1, 1) := by decide +kernel
theorem dX10_adds_13 : decode cX10_adds 13 = .ok (.istore 5, 2) := by decide +kernel
theorem dX10_adds_15 : decode cX10_adds 15 = .ok (.iconst 0, 1) := by decide +kernel
theorem dX10_adds_16 : decode cX10_adds 16 = .ok (.istore 6, 2) := by decide +kernel
theorem dX10_adds_18 : decode cX10_adds 18 = .ok (.iload 6, 2) := by decide +kernel
theorem dX10_adds_20 : decode cX10_adds 20 = .ok (.aload_n 0, 1) := by decide +kernel
theorem dX10_adds_21 : decode cX10_adds 21 = .ok (.getfield 221, 3) := by decide +kernel
theorem dX10_adds_24 : decode cX10_adds 24 = .ok (.if_icmp .ge 45, 3) := by decide +kernel
theorem dX10_adds_27 : decode cX10_adds 27 = .ok (.iload 5, 2) := by decide +kernel
theorem dX10_adds_29 : decode cX10_adds 29 = .ok (.ifCond .eq 31, 3) := by decide +kernel
theorem dX10_adds_32 : decode cX10_adds 32 = .ok (.aload_n 0, 1) := by decide +kernel
theorem dX10_adds_33 : decode cX10_adds 33 = .ok (.getfield 28, 3) := by decide +kernel
theorem dX10_adds_36 : decode cX10_adds 36 = .ok (.iload 6, 2) := by decide +kernel
theorem dX10_adds_38 : decode cX10_adds 38 = .ok (.laload, 1) := by decide +kernel
theorem dX10_adds_39 : decode cX10_adds 39 = .ok (.lload_n 1, 1) := by decide +kernel
theorem dX10_adds_40 : decode cX10_adds 40 = .ok (.lcmp, 1) := by decide +kernel
theorem dX10_adds_41 : decode cX10_adds 41 = .ok (.ifCond .ne 15, 3) := by decide +kernel
theorem dX10_adds_44 : decode cX10_adds 44 = .ok (.aload_n 0, 1) := by decide +kernel
theorem dX10_adds_45 : decode cX10_adds 45 = .ok (.getfield 32, 3) := by decide +kernel
theorem dX10_adds_48 : decode cX10_adds 48 = .ok (.iload 6, 2) := by decide +kernel
theorem dX10_adds_50 : decode cX10_adds 50 = .ok (.laload, 1) := by decide +kernel
theorem dX10_adds_51 : decode cX10_adds 51 = .ok (.lload_n 3, 1) := by decide +kernel
theorem dX10_adds_52 : decode cX10_adds 52 = .ok (.lcmp, 1) := by decide +kernel
theorem dX10_adds_53 : decode cX10_adds 53 = .ok (.ifCond .eq 7, 3) := by decide +kernel
theorem dX10_adds_56 : decode cX10_adds 56 = .ok (.iconst 1, 1) := by decide +kernel
theorem dX10_adds_57 : decode cX10_adds 57 = .ok (.goto 4, 3) := by decide +kernel
theorem dX10_adds_60 : decode cX10_adds 60 = .ok (.iconst 0, 1) := by decide +kernel
theorem dX10_adds_61 : decode cX10_adds 61 = .ok (.istore 5, 2) := by decide +kernel
theorem dX10_adds_63 : decode cX10_adds 63 = .ok (.iinc 6 1, 3) := by decide +kernel
theorem dX10_adds_66 : decode cX10_adds 66 = .ok (.goto (-48), 3) := by decide +kernel
theorem dX10_adds_69 : decode cX10_adds 69 = .ok (.iload 5, 2) := by decide +kernel
theorem dX10_adds_71 : decode cX10_adds 71 = .ok (.ifCond .eq 33, 3) := by decide +kernel
theorem dX10_adds_74 : decode cX10_adds 74 = .ok (.aload_n 0, 1) := by decide +kernel
theorem dX10_adds_75 : decode cX10_adds 75 = .ok (.getfield 28, 3) := by decide +kernel
theorem dX10_adds_78 : decode cX10_adds 78 = .ok (.aload_n 0, 1) := by decide +kernel
theorem dX10_adds_79 : decode cX10_adds 79 = .ok (.getfield 221, 3) := by decide +kernel
theorem dX10_adds_82 : decode cX10_adds 82 = .ok (.lload_n 1, 1) := by decide +kernel
theorem dX10_adds_83 : decode cX10_adds 83 = .ok (.lastore, 1) := by decide +kernel
theorem dX10_adds_84 : decode cX10_adds 84 = .ok (.aload_n 0, 1) := by decide +kernel
theorem dX10_adds_85 : decode cX10_adds 85 = .ok (.getfield 32, 3) := by decide +kernel
theorem dX10_adds_88 : decode cX10_adds 88 = .ok (.aload_n 0, 1) := by decide +kernel
theorem dX10_adds_89 : decode cX10_adds 89 = .ok (.getfield 221, 3) := by decide +kernel
theorem dX10_adds_92 : decode cX10_adds 92 = .ok (.lload_n 3, 1) := by decide +kernel
theorem dX10_adds_93 : decode cX10_adds 93 = .ok (.lastore, 1) := by decide +kernel
theorem dX10_adds_94 : decode cX10_adds 94 = .ok (.aload_n 0, 1) := by decide +kernel
theorem dX10_adds_95 : decode cX10_adds 95 = .ok (.dup, 1) := by decide +kernel
theorem dX10_adds_96 : decode cX10_adds 96 = .ok (.getfield 221, 3) := by decide +kernel
theorem dX10_adds_99 : decode cX10_adds 99 = .ok (.iconst 1, 1) := by decide +kernel
theorem dX10_adds_100 : decode cX10_adds 100 = .ok (.iadd, 1) := by decide +kernel
theorem dX10_adds_101 : decode cX10_adds 101 = .ok (.putfield 221, 3) := by decide +kernel
theorem dX10_adds_104 : decode cX10_adds 104 = .ok (.return_, 1) := by decide +kernel
set_option maxRecDepth 20000 in
theorem ggX10_addsBoth_X10_refused : GoodIn wsX10_addsBoth wsX10_refused := goodIn_r _ [6, 7, 8, 9, 5, 10, 1, 11, 12, 13, 14, 15, 16, 17, 18, 19, 20, 21, 22, 23, 24, 53, 54, 55, 56, 57, 58, 59, 60, 61, 62, 63, 64, 65, 66, 67, 68, 69, 70, 71, 72] (by decide +kernel) (by decide +kernel)
set_option maxRecDepth 20000 in
theorem gX10_addsBoth_X10_refused : GoodIn wsX10_addsBoth (wsV RX10 85 RX10 yX10_refused wsX10_refused) := goodIn_app (goodIn_of _ (by decide +kernel)) ggX10_addsBoth_X10_refused
set_option maxRecDepth 20000 in
theorem ggX10_addsBoth_X10_lays : GoodIn wsX10_addsBoth wsX10_lays := goodIn_r _ [28, 29, 1, 53, 54, 55, 56, 57, 58, 59, 60, 61, 62, 63, 64, 65, 66, 67, 68, 69, 70, 71, 72] (by decide +kernel) (by decide +kernel)
set_option maxRecDepth 20000 in
theorem gX10_addsBoth_X10_lays : GoodIn wsX10_addsBoth (wsV RX10 88 RX10 yX10_lays wsX10_lays) := goodIn_app (goodIn_of _ (by decide +kernel)) ggX10_addsBoth_X10_lays
set_option maxRecDepth 20000 in
theorem ggX10_addsBoth_X10_moves : GoodIn wsX10_addsBoth wsX10_moves := goodIn_r _ [33, 11, 12, 5, 13, 7, 8, 9, 10, 1, 34, 35, 36, 37, 53, 54, 55, 56, 57, 58, 59, 60, 61, 62, 63, 64, 65, 66, 67, 68, 69, 70, 71, 72] (by decide +kernel) (by decide +kernel)
set_option maxRecDepth 20000 in
theorem gX10_addsBoth_X10_moves : GoodIn wsX10_addsBoth (wsV RX10 91 RX10 yX10_moves wsX10_moves) := goodIn_app (goodIn_of _ (by decide +kernel)) ggX10_addsBoth_X10_moves
set_option maxRecDepth 20000 in
theorem ggX10_addsBoth_X10_adds : GoodIn wsX10_addsBoth wsX10_adds := goodIn_r _ [41, 42, 43, 44, 45, 46, 47, 5, 48, 1, 53, 54, 55, 56, 57, 58, 59, 60, 61, 62, 63, 64, 65, 66, 67, 68, 69, 70, 71, 72] (by decide +kernel) (by decide +kernel)
set_option maxRecDepth 20000 in
theorem gX10_addsBoth_X10_adds : GoodIn wsX10_addsBoth (wsV RX10 224 RX10 yX10_adds wsX10_adds) := goodIn_app (goodIn_of _ (by decide +kernel)) ggX10_addsBoth_X10_adds
set_option maxRecDepth 20000 in
theorem ggX10_addsBoth_X10_takesUp : GoodIn wsX10_addsBoth wsX10_takesUp := goodIn_r _ [52, 1, 29, 53, 54, 55, 56, 57, 58, 59, 60, 61, 62, 63, 64, 65, 66, 67, 68, 69, 70, 71, 72] (by decide +kernel) (by decide +kernel)
set_option maxRecDepth 20000 in
theorem gX10_addsBoth_X10_takesUp : GoodIn wsX10_addsBoth (wsV RX10 97 RX10 yX10_takesUp wsX10_takesUp) := goodIn_app (goodIn_of _ (by decide +kernel)) ggX10_addsBoth_X10_takesUp
theorem dX10_addsBoth_0 : decode cX10_addsBoth 0 = .ok (.aload_n 0, 1) := by decide +kernel
theorem dX10_addsBoth_1 : decode cX10_addsBoth 1 = .ok (.getfield 7, 3) := by decide +kernel
theorem dX10_addsBoth_4 : decode cX10_addsBoth 4 = .ok (.bipush 36, 2) := by decide +kernel
theorem dX10_addsBoth_6 : decode cX10_addsBoth 6 = .ok (.iaload, 1) := by decide +kernel
theorem dX10_addsBoth_7 : decode cX10_addsBoth 7 = .ok (.istore_n 3, 1) := by decide +kernel
theorem dX10_addsBoth_8 : decode cX10_addsBoth 8 = .ok (.iconst (-1), 1) := by decide +kernel
theorem dX10_addsBoth_9 : decode cX10_addsBoth 9 = .ok (.istore 4, 2) := by decide +kernel
theorem dX10_addsBoth_11 : decode cX10_addsBoth 11 = .ok (.iload 4, 2) := by decide +kernel
theorem dX10_addsBoth_13 : decode cX10_addsBoth 13 = .ok (.bipush 16, 2) := by decide +kernel
theorem dX10_addsBoth_15 : decode cX10_addsBoth 15 = .ok (.if_icmp .ge 91, 3) := by decide +kernel
theorem dX10_addsBoth_18 : decode cX10_addsBoth 18 = .ok (.aload_n 0, 1) := by decide +kernel
theorem dX10_addsBoth_19 : decode cX10_addsBoth 19 = .ok (.iload_n 3, 1) := by decide +kernel
theorem dX10_addsBoth_20 : decode cX10_addsBoth 20 = .ok (.iload 4, 2) := by decide +kernel
theorem dX10_addsBoth_22 : decode cX10_addsBoth 22 = .ok (.iload_n 1, 1) := by decide +kernel
theorem dX10_addsBoth_23 : decode cX10_addsBoth 23 = .ok (.invokevirtual 85, 3) := by decide +kernel
theorem dX10_addsBoth_26 : decode cX10_addsBoth 26 = .ok (.ifCond .ne 74, 3) := by decide +kernel
theorem dX10_addsBoth_29 : decode cX10_addsBoth 29 = .ok (.aload_n 0, 1) := by decide +kernel
theorem dX10_addsBoth_30 : decode cX10_addsBoth 30 = .ok (.iconst 0, 1) := by decide +kernel
theorem dX10_addsBoth_31 : decode cX10_addsBoth 31 = .ok (.invokevirtual 88, 3) := by decide +kernel
theorem dX10_addsBoth_34 : decode cX10_addsBoth 34 = .ok (.aload_n 0, 1) := by decide +kernel
theorem dX10_addsBoth_35 : decode cX10_addsBoth 35 = .ok (.iload_n 3, 1) := by decide +kernel
theorem dX10_addsBoth_36 : decode cX10_addsBoth 36 = .ok (.iload 4, 2) := by decide +kernel
theorem dX10_addsBoth_38 : decode cX10_addsBoth 38 = .ok (.iload_n 1, 1) := by decide +kernel
theorem dX10_addsBoth_39 : decode cX10_addsBoth 39 = .ok (.invokevirtual 91, 3) := by decide +kernel
theorem dX10_addsBoth_42 : decode cX10_addsBoth 42 = .ok (.istore 5, 2) := by decide +kernel
theorem dX10_addsBoth_44 : decode cX10_addsBoth 44 = .ok (.iconst (-1), 1) := by decide +kernel
theorem dX10_addsBoth_45 : decode cX10_addsBoth 45 = .ok (.istore 6, 2) := by decide +kernel
theorem dX10_addsBoth_47 : decode cX10_addsBoth 47 = .ok (.iload 6, 2) := by decide +kernel
theorem dX10_addsBoth_49 : decode cX10_addsBoth 49 = .ok (.bipush 16, 2) := by decide +kernel
theorem dX10_addsBoth_51 : decode cX10_addsBoth 51 = .ok (.if_icmp .ge 44, 3) := by decide +kernel
theorem dX10_addsBoth_54 : decode cX10_addsBoth 54 = .ok (.aload_n 0, 1) := by decide +kernel
theorem dX10_addsBoth_55 : decode cX10_addsBoth 55 = .ok (.iload_n 3, 1) := by decide +kernel
theorem dX10_addsBoth_56 : decode cX10_addsBoth 56 = .ok (.iload 6, 2) := by decide +kernel
theorem dX10_addsBoth_58 : decode cX10_addsBoth 58 = .ok (.iload_n 2, 1) := by decide +kernel
theorem dX10_addsBoth_59 : decode cX10_addsBoth 59 = .ok (.invokevirtual 85, 3) := by decide +kernel
theorem dX10_addsBoth_62 : decode cX10_addsBoth 62 = .ok (.ifCond .ne 27, 3) := by decide +kernel
theorem dX10_addsBoth_65 : decode cX10_addsBoth 65 = .ok (.aload_n 0, 1) := by decide +kernel
theorem dX10_addsBoth_66 : decode cX10_addsBoth 66 = .ok (.iconst 1, 1) := by decide +kernel
theorem dX10_addsBoth_67 : decode cX10_addsBoth 67 = .ok (.invokevirtual 88, 3) := by decide +kernel
theorem dX10_addsBoth_70 : decode cX10_addsBoth 70 = .ok (.aload_n 0, 1) := by decide +kernel
theorem dX10_addsBoth_71 : decode cX10_addsBoth 71 = .ok (.iload_n 3, 1) := by decide +kernel
theorem dX10_addsBoth_72 : decode cX10_addsBoth 72 = .ok (.iload 6, 2) := by decide +kernel
theorem dX10_addsBoth_74 : decode cX10_addsBoth 74 = .ok (.iload_n 2, 1) := by decide +kernel
theorem dX10_addsBoth_75 : decode cX10_addsBoth 75 = .ok (.invokevirtual 91, 3) := by decide +kernel
theorem dX10_addsBoth_78 : decode cX10_addsBoth 78 = .ok (.istore 5, 2) := by decide +kernel
theorem dX10_addsBoth_80 : decode cX10_addsBoth 80 = .ok (.aload_n 0, 1) := by decide +kernel
theorem dX10_addsBoth_81 : decode cX10_addsBoth 81 = .ok (.invokevirtual 224, 3) := by decide +kernel
theorem dX10_addsBoth_84 : decode cX10_addsBoth 84 = .ok (.aload_n 0, 1) := by decide +kernel
theorem dX10_addsBoth_85 : decode cX10_addsBoth 85 = .ok (.iconst 1, 1) := by decide +kernel
theorem dX10_addsBoth_86 : decode cX10_addsBoth 86 = .ok (.invokevirtual 97, 3) := by decide +kernel
theorem dX10_addsBoth_89 : decode cX10_addsBoth 89 = .ok (.iinc 6 1, 3) := by decide +kernel
theorem dX10_addsBoth_92 : decode cX10_addsBoth 92 = .ok (.goto (-45), 3) := by decide +kernel
theorem dX10_addsBoth_95 : decode cX10_addsBoth 95 = .ok (.aload_n 0, 1) := by decide +kernel
theorem dX10_addsBoth_96 : decode cX10_addsBoth 96 = .ok (.iconst 0, 1) := by decide +kernel
theorem dX10_addsBoth_97 : decode cX10_addsBoth 97 = .ok (.invokevirtual 97, 3) := by decide +kernel
theorem dX10_addsBoth_100 : decode cX10_addsBoth 100 = .ok (.iinc 4 1, 3) := by decide +kernel
theorem dX10_addsBoth_103 : decode cX10_addsBoth 103 = .ok (.goto (-92), 3) := by decide +kernel
theorem dX10_addsBoth_106 : decode cX10_addsBoth 106 = .ok (.return_, 1) := by decide +kernel
set_option maxRecDepth 20000 in
theorem ggX10_addsOne_X10_refused : GoodIn wsX10_addsOne wsX10_refused := goodIn_r _ [6, 7, 8, 9, 5, 10, 1, 11, 12, 13, 14, 15, 16, 17, 18, 19, 20, 21, 22, 23, 24, 53, 54, 55, 56, 57, 58, 59, 60, 61, 62, 63, 64, 65, 66, 67, 68, 69, 70, 71, 72] (by decide +kernel) (by decide +kernel)
set_option maxRecDepth 20000 in
theorem gX10_addsOne_X10_refused : GoodIn wsX10_addsOne (wsV RX10 85 RX10 yX10_refused wsX10_refused) := goodIn_app (goodIn_of _ (by decide +kernel)) ggX10_addsOne_X10_refused
set_option maxRecDepth 20000 in
theorem ggX10_addsOne_X10_lays : GoodIn wsX10_addsOne wsX10_lays := goodIn_r _ [28, 29, 1, 53, 54, 55, 56, 57, 58, 59, 60, 61, 62, 63, 64, 65, 66, 67, 68, 69, 70, 71, 72] (by decide +kernel) (by decide +kernel)
set_option maxRecDepth 20000 in
theorem gX10_addsOne_X10_lays : GoodIn wsX10_addsOne (wsV RX10 88 RX10 yX10_lays wsX10_lays) := goodIn_app (goodIn_of _ (by decide +kernel)) ggX10_addsOne_X10_lays
set_option maxRecDepth 20000 in
theorem ggX10_addsOne_X10_moves : GoodIn wsX10_addsOne wsX10_moves := goodIn_r _ [33, 11, 12, 5, 13, 7, 8, 9, 10, 1, 34, 35, 36, 37, 53, 54, 55, 56, 57, 58, 59, 60, 61, 62, 63, 64, 65, 66, 67, 68, 69, 70, 71, 72] (by decide +kernel) (by decide +kernel)
set_option maxRecDepth 20000 in
theorem gX10_addsOne_X10_moves : GoodIn wsX10_addsOne (wsV RX10 91 RX10 yX10_moves wsX10_moves) := goodIn_app (goodIn_of _ (by decide +kernel)) ggX10_addsOne_X10_moves
set_option maxRecDepth 20000 in
theorem ggX10_addsOne_X10_adds : GoodIn wsX10_addsOne wsX10_adds := goodIn_r _ [41, 42, 43, 44, 45, 46, 47, 5, 48, 1, 53, 54, 55, 56, 57, 58, 59, 60, 61, 62, 63, 64, 65, 66, 67, 68, 69, 70, 71, 72] (by decide +kernel) (by decide +kernel)
set_option maxRecDepth 20000 in
theorem gX10_addsOne_X10_adds : GoodIn wsX10_addsOne (wsV RX10 224 RX10 yX10_adds wsX10_adds) := goodIn_app (goodIn_of _ (by decide +kernel)) ggX10_addsOne_X10_adds
set_option maxRecDepth 20000 in
theorem ggX10_addsOne_X10_takesUp : GoodIn wsX10_addsOne wsX10_takesUp := goodIn_r _ [52, 1, 29, 53, 54, 55, 56, 57, 58, 59, 60, 61, 62, 63, 64, 65, 66, 67, 68, 69, 70, 71, 72] (by decide +kernel) (by decide +kernel)
set_option maxRecDepth 20000 in
theorem gX10_addsOne_X10_takesUp : GoodIn wsX10_addsOne (wsV RX10 97 RX10 yX10_takesUp wsX10_takesUp) := goodIn_app (goodIn_of _ (by decide +kernel)) ggX10_addsOne_X10_takesUp
theorem dX10_addsOne_0 : decode cX10_addsOne 0 = .ok (.aload_n 0, 1) := by decide +kernel
theorem dX10_addsOne_1 : decode cX10_addsOne 1 = .ok (.getfield 7, 3) := by decide +kernel
theorem dX10_addsOne_4 : decode cX10_addsOne 4 = .ok (.bipush 36, 2) := by decide +kernel
theorem dX10_addsOne_6 : decode cX10_addsOne 6 = .ok (.iaload, 1) := by decide +kernel
theorem dX10_addsOne_7 : decode cX10_addsOne 7 = .ok (.istore_n 2, 1) := by decide +kernel
theorem dX10_addsOne_8 : decode cX10_addsOne 8 = .ok (.iconst (-1), 1) := by decide +kernel
theorem dX10_addsOne_9 : decode cX10_addsOne 9 = .ok (.istore_n 3, 1) := by decide +kernel
theorem dX10_addsOne_10 : decode cX10_addsOne 10 = .ok (.iload_n 3, 1) := by decide +kernel
theorem dX10_addsOne_11 : decode cX10_addsOne 11 = .ok (.bipush 16, 2) := by decide +kernel
theorem dX10_addsOne_13 : decode cX10_addsOne 13 = .ok (.if_icmp .ge 42, 3) := by decide +kernel
theorem dX10_addsOne_16 : decode cX10_addsOne 16 = .ok (.aload_n 0, 1) := by decide +kernel
theorem dX10_addsOne_17 : decode cX10_addsOne 17 = .ok (.iload_n 2, 1) := by decide +kernel
theorem dX10_addsOne_18 : decode cX10_addsOne 18 = .ok (.iload_n 3, 1) := by decide +kernel
theorem dX10_addsOne_19 : decode cX10_addsOne 19 = .ok (.iload_n 1, 1) := by decide +kernel
theorem dX10_addsOne_20 : decode cX10_addsOne 20 = .ok (.invokevirtual 85, 3) := by decide +kernel
theorem dX10_addsOne_23 : decode cX10_addsOne 23 = .ok (.ifCond .ne 26, 3) := by decide +kernel
theorem dX10_addsOne_26 : decode cX10_addsOne 26 = .ok (.aload_n 0, 1) := by decide +kernel
theorem dX10_addsOne_27 : decode cX10_addsOne 27 = .ok (.iconst 0, 1) := by decide +kernel
theorem dX10_addsOne_28 : decode cX10_addsOne 28 = .ok (.invokevirtual 88, 3) := by decide +kernel
theorem dX10_addsOne_31 : decode cX10_addsOne 31 = .ok (.aload_n 0, 1) := by decide +kernel
theorem dX10_addsOne_32 : decode cX10_addsOne 32 = .ok (.iload_n 2, 1) := by decide +kernel
theorem dX10_addsOne_33 : decode cX10_addsOne 33 = .ok (.iload_n 3, 1) := by decide +kernel
theorem dX10_addsOne_34 : decode cX10_addsOne 34 = .ok (.iload_n 1, 1) := by decide +kernel
theorem dX10_addsOne_35 : decode cX10_addsOne 35 = .ok (.invokevirtual 91, 3) := by decide +kernel
theorem dX10_addsOne_38 : decode cX10_addsOne 38 = .ok (.istore 4, 2) := by decide +kernel
theorem dX10_addsOne_40 : decode cX10_addsOne 40 = .ok (.aload_n 0, 1) := by decide +kernel
theorem dX10_addsOne_41 : decode cX10_addsOne 41 = .ok (.invokevirtual 224, 3) := by decide +kernel
theorem dX10_addsOne_44 : decode cX10_addsOne 44 = .ok (.aload_n 0, 1) := by decide +kernel
theorem dX10_addsOne_45 : decode cX10_addsOne 45 = .ok (.iconst 0, 1) := by decide +kernel
theorem dX10_addsOne_46 : decode cX10_addsOne 46 = .ok (.invokevirtual 97, 3) := by decide +kernel
theorem dX10_addsOne_49 : decode cX10_addsOne 49 = .ok (.iinc 3 1, 3) := by decide +kernel
theorem dX10_addsOne_52 : decode cX10_addsOne 52 = .ok (.goto (-42), 3) := by decide +kernel
theorem dX10_addsOne_55 : decode cX10_addsOne 55 = .ok (.return_, 1) := by decide +kernel
set_option maxRecDepth 20000 in
theorem ggX10_allPlays_X10_reaches : GoodIn wsX10_allPlays wsX10_reaches := goodIn_r _ [7, 2, 8, 9, 10, 6, 11, 12, 13, 14, 15, 16, 17, 18, 19, 20, 21, 22, 23, 24, 25, 26, 27, 28, 29, 30, 31, 32, 33, 34, 35, 36, 37, 38, 39, 40, 41, 42, 43, 44, 45, 46, 47, 48, 49, 50, 51, 52, 53, 54, 55, 56, 57, 58, 59, 60, 61, 62, 93, 94, 95, 96, 97, 98, 99, 100, 101, 102, 103, 104, 105, 106, 107, 108, 109, 110, 111, 112] (by decide +kernel) (by decide +kernel)
set_option maxRecDepth 20000 in
theorem gX10_allPlays_X10_reaches : GoodIn wsX10_allPlays (wsV RX10 115 RX10 yX10_reaches wsX10_reaches) := goodIn_app (goodIn_of _ (by decide +kernel)) ggX10_allPlays_X10_reaches
set_option maxRecDepth 20000 in
theorem ggX10_allPlays_X10_areUnlike : GoodIn wsX10_allPlays wsX10_areUnlike := goodIn_r _ [11, 2, 93, 94, 95, 96, 97, 98, 99, 100, 101, 102, 103, 104, 105, 106, 107, 108, 109, 110, 111, 112] (by decide +kernel) (by decide +kernel)
set_option maxRecDepth 20000 in
theorem gX10_allPlays_X10_areUnlike : GoodIn wsX10_allPlays (wsV RX10 104 RX10 yX10_areUnlike wsX10_areUnlike) := goodIn_app (goodIn_of _ (by decide +kernel)) ggX10_allPlays_X10_areUnlike
set_option maxRecDepth 20000 in
theorem ggX10_allPlays_X10_addsBoth : GoodIn wsX10_allPlays wsX10_addsBoth := goodIn_r _ [66, 2, 16, 17, 18, 6, 19, 20, 21, 22, 23, 24, 25, 26, 27, 28, 29, 30, 31, 32, 33, 34, 35, 36, 37, 42, 43, 44, 45, 46, 47, 48, 49, 50, 51, 52, 53, 54, 67, 68, 69, 70, 1, 71, 72, 73, 74, 75, 76, 59, 60, 61, 62, 93, 94, 95, 96, 97, 98, 99, 100, 101, 102, 103, 104, 105, 106, 107, 108, 109, 110, 111, 112] (by decide +kernel) (by decide +kernel)
set_option maxRecDepth 20000 in
theorem gX10_allPlays_X10_addsBoth : GoodIn wsX10_allPlays (wsV RX10 227 RX10 yX10_addsBoth wsX10_addsBoth) := goodIn_app (goodIn_of _ (by decide +kernel)) ggX10_allPlays_X10_addsBoth
set_option maxRecDepth 20000 in
theorem ggX10_allPlays_X10_isAny : GoodIn wsX10_allPlays wsX10_isAny := goodIn_r _ [58, 16, 17, 18, 6, 19, 20, 21, 22, 23, 2, 24, 25, 26, 27, 28, 29, 30, 31, 32, 33, 34, 35, 36, 37, 93, 94, 95, 96, 97, 98, 99, 100, 101, 102, 103, 104, 105, 106, 107, 108, 109, 110, 111, 112] (by decide +kernel) (by decide +kernel)
set_option maxRecDepth 20000 in
theorem gX10_allPlays_X10_isAny : GoodIn wsX10_allPlays (wsV RX10 94 RX10 yX10_isAny wsX10_isAny) := goodIn_app (goodIn_of _ (by decide +kernel)) ggX10_allPlays_X10_isAny
set_option maxRecDepth 20000 in
theorem ggX10_allPlays_X10_addsOne : GoodIn wsX10_allPlays wsX10_addsOne := goodIn_r _ [80, 2, 16, 17, 18, 6, 19, 20, 21, 22, 23, 24, 25, 26, 27, 28, 29, 30, 31, 32, 33, 34, 35, 36, 37, 42, 43, 44, 45, 46, 47, 48, 49, 50, 51, 52, 53, 54, 67, 68, 69, 70, 1, 71, 72, 73, 74, 75, 76, 59, 60, 61, 62, 93, 94, 95, 96, 97, 98, 99, 100, 101, 102, 103, 104, 105, 106, 107, 108, 109, 110, 111, 112] (by decide +kernel) (by decide +kernel)
set_option maxRecDepth 20000 in
theorem gX10_allPlays_X10_addsOne : GoodIn wsX10_allPlays (wsV RX10 231 RX10 yX10_addsOne wsX10_addsOne) := goodIn_app (goodIn_of _ (by decide +kernel)) ggX10_allPlays_X10_addsOne
set_option maxRecDepth 20000 in
theorem ggX10_allPlays_X10_likePlays : GoodIn wsX10_allPlays wsX10_likePlays := goodIn_r _ [84, 85, 2, 1, 86, 71, 87, 72, 67, 68, 69, 6, 70, 73, 74, 75, 76, 88, 89, 90, 91, 92, 77, 78, 79, 80, 16, 17, 18, 19, 20, 21, 22, 23, 24, 25, 26, 27, 28, 29, 30, 31, 32, 33, 34, 35, 36, 37, 42, 43, 44, 45, 46, 47, 48, 49, 50, 51, 52, 53, 54, 59, 60, 61, 62, 93, 94, 95, 96, 97, 98, 99, 100, 101, 102, 103, 104, 105, 106, 107, 108, 109, 110, 111, 112] (by decide +kernel) (by decide +kernel)
set_option maxRecDepth 20000 in
theorem gX10_allPlays_X10_likePlays : GoodIn wsX10_allPlays (wsV RX10 234 RX10 yX10_likePlays wsX10_likePlays) := goodIn_app (goodIn_of _ (by decide +kernel)) ggX10_allPlays_X10_likePlays
theorem dX10_allPlays_0 : decode cX10_allPlays 0 = .ok (.aload_n 0, 1) := by decide +kernel
theorem dX10_allPlays_1 : decode cX10_allPlays 1 = .ok (.iconst 0, 1) := by decide +kernel
theorem dX10_allPlays_2 : decode cX10_allPlays 2 = .ok (.putfield 221, 3) := by decide +kernel
theorem dX10_allPlays_5 : decode cX10_allPlays 5 = .ok (.aload_n 0, 1) := by decide +kernel
theorem dX10_allPlays_6 : decode cX10_allPlays 6 = .ok (.invokevirtual 115, 3) := by decide +kernel
theorem dX10_allPlays_9 : decode cX10_allPlays 9 = .ok (.istore_n 1, 1) := by decide +kernel
theorem dX10_allPlays_10 : decode cX10_allPlays 10 = .ok (.iload_n 1, 1) := by decide +kernel
theorem dX10_allPlays_11 : decode cX10_allPlays 11 = .ok (.ifCond .ne 5, 3) := by decide +kernel
theorem dX10_allPlays_14 : decode cX10_allPlays 14 = .ok (.iconst 1, 1) := by decide +kernel
theorem dX10_allPlays_15 : decode cX10_allPlays 15 = .ok (.ireturn, 1) := by decide +kernel
theorem dX10_allPlays_16 : decode cX10_allPlays 16 = .ok (.aload_n 0, 1) := by decide +kernel
theorem dX10_allPlays_17 : decode cX10_allPlays 17 = .ok (.invokevirtual 104, 3) := by decide +kernel
theorem dX10_allPlays_20 : decode cX10_allPlays 20 = .ok (.ifCond .eq 105, 3) := by decide +kernel
theorem dX10_allPlays_23 : decode cX10_allPlays 23 = .ok (.aload_n 0, 1) := by decide +kernel
theorem dX10_allPlays_24 : decode cX10_allPlays 24 = .ok (.getfield 7, 3) := by decide +kernel
theorem dX10_allPlays_27 : decode cX10_allPlays 27 = .ok (.bipush 39, 2) := by decide +kernel
theorem dX10_allPlays_29 : decode cX10_allPlays 29 = .ok (.iaload, 1) := by decide +kernel
theorem dX10_allPlays_30 : decode cX10_allPlays 30 = .ok (.aload_n 0, 1) := by decide +kernel
theorem dX10_allPlays_31 : decode cX10_allPlays 31 = .ok (.getfield 7, 3) := by decide +kernel
theorem dX10_allPlays_34 : decode cX10_allPlays 34 = .ok (.bipush 40, 2) := by decide +kernel
theorem dX10_allPlays_36 : decode cX10_allPlays 36 = .ok (.iaload, 1) := by decide +kernel
theorem dX10_allPlays_37 : decode cX10_allPlays 37 = .ok (.if_icmp .le 13, 3) := by decide +kernel
theorem dX10_allPlays_40 : decode cX10_allPlays 40 = .ok (.aload_n 0, 1) := by decide +kernel
theorem dX10_allPlays_41 : decode cX10_allPlays 41 = .ok (.getfield 7, 3) := by decide +kernel
theorem dX10_allPlays_44 : decode cX10_allPlays 44 = .ok (.bipush 39, 2) := by decide +kernel
theorem dX10_allPlays_46 : decode cX10_allPlays 46 = .ok (.iaload, 1) := by decide +kernel
theorem dX10_allPlays_47 : decode cX10_allPlays 47 = .ok (.goto 10, 3) := by decide +kernel
theorem dX10_allPlays_50 : decode cX10_allPlays 50 = .ok (.aload_n 0, 1) := by decide +kernel
theorem dX10_allPlays_51 : decode cX10_allPlays 51 = .ok (.getfield 7, 3) := by decide +kernel
theorem dX10_allPlays_54 : decode cX10_allPlays 54 = .ok (.bipush 40, 2) := by decide +kernel
theorem dX10_allPlays_56 : decode cX10_allPlays 56 = .ok (.iaload, 1) := by decide +kernel
theorem dX10_allPlays_57 : decode cX10_allPlays 57 = .ok (.istore_n 2, 1) := by decide +kernel
theorem dX10_allPlays_58 : decode cX10_allPlays 58 = .ok (.aload_n 0, 1) := by decide +kernel
theorem dX10_allPlays_59 : decode cX10_allPlays 59 = .ok (.getfield 7, 3) := by decide +kernel
theorem dX10_allPlays_62 : decode cX10_allPlays 62 = .ok (.bipush 39, 2) := by decide +kernel
theorem dX10_allPlays_64 : decode cX10_allPlays 64 = .ok (.iaload, 1) := by decide +kernel
theorem dX10_allPlays_65 : decode cX10_allPlays 65 = .ok (.aload_n 0, 1) := by decide +kernel
theorem dX10_allPlays_66 : decode cX10_allPlays 66 = .ok (.getfield 7, 3) := by decide +kernel
theorem dX10_allPlays_69 : decode cX10_allPlays 69 = .ok (.bipush 40, 2) := by decide +kernel
theorem dX10_allPlays_71 : decode cX10_allPlays 71 = .ok (.iaload, 1) := by decide +kernel
theorem dX10_allPlays_72 : decode cX10_allPlays 72 = .ok (.iadd, 1) := by decide +kernel
theorem dX10_allPlays_73 : decode cX10_allPlays 73 = .ok (.iload_n 2, 1) := by decide +kernel
theorem dX10_allPlays_74 : decode cX10_allPlays 74 = .ok (.isub, 1) := by decide +kernel
theorem dX10_allPlays_75 : decode cX10_allPlays 75 = .ok (.istore_n 3, 1) := by decide +kernel
theorem dX10_allPlays_76 : decode cX10_allPlays 76 = .ok (.iload_n 1, 1) := by decide +kernel
theorem dX10_allPlays_77 : decode cX10_allPlays 77 = .ok (.iconst 2, 1) := by decide +kernel
theorem dX10_allPlays_78 : decode cX10_allPlays 78 = .ok (.if_icmp .ne 18, 3) := by decide +kernel
theorem dX10_allPlays_81 : decode cX10_allPlays 81 = .ok (.aload_n 0, 1) := by decide +kernel
theorem dX10_allPlays_82 : decode cX10_allPlays 82 = .ok (.iload_n 2, 1) := by decide +kernel
theorem dX10_allPlays_83 : decode cX10_allPlays 83 = .ok (.iload_n 3, 1) := by decide +kernel
theorem dX10_allPlays_84 : decode cX10_allPlays 84 = .ok (.invokevirtual 227, 3) := by decide +kernel
theorem dX10_allPlays_87 : decode cX10_allPlays 87 = .ok (.aload_n 0, 1) := by decide +kernel
theorem dX10_allPlays_88 : decode cX10_allPlays 88 = .ok (.iload_n 3, 1) := by decide +kernel
theorem dX10_allPlays_89 : decode cX10_allPlays 89 = .ok (.iload_n 2, 1) := by decide +kernel
theorem dX10_allPlays_90 : decode cX10_allPlays 90 = .ok (.invokevirtual 227, 3) := by decide +kernel
theorem dX10_allPlays_93 : decode cX10_allPlays 93 = .ok (.goto 27, 3) := by decide +kernel
theorem dX10_allPlays_96 : decode cX10_allPlays 96 = .ok (.aload_n 0, 1) := by decide +kernel
theorem dX10_allPlays_97 : decode cX10_allPlays 97 = .ok (.aload_n 0, 1) := by decide +kernel
theorem dX10_allPlays_98 : decode cX10_allPlays 98 = .ok (.aload_n 0, 1) := by decide +kernel
theorem dX10_allPlays_99 : decode cX10_allPlays 99 = .ok (.getfield 7, 3) := by decide +kernel
theorem dX10_allPlays_102 : decode cX10_allPlays 102 = .ok (.bipush 36, 2) := by decide +kernel
theorem dX10_allPlays_104 : decode cX10_allPlays 104 = .ok (.iaload, 1) := by decide +kernel
theorem dX10_allPlays_105 : decode cX10_allPlays 105 = .ok (.iload_n 2, 1) := by decide +kernel
theorem dX10_allPlays_106 : decode cX10_allPlays 106 = .ok (.invokevirtual 94, 3) := by decide +kernel
theorem dX10_allPlays_109 : decode cX10_allPlays 109 = .ok (.ifCond .eq 7, 3) := by decide +kernel
theorem dX10_allPlays_112 : decode cX10_allPlays 112 = .ok (.iload_n 2, 1) := by decide +kernel
theorem dX10_allPlays_113 : decode cX10_allPlays 113 = .ok (.goto 4, 3) := by decide +kernel
theorem dX10_allPlays_116 : decode cX10_allPlays 116 = .ok (.iload_n 3, 1) := by decide +kernel
theorem dX10_allPlays_117 : decode cX10_allPlays 117 = .ok (.invokevirtual 231, 3) := by decide +kernel
theorem dX10_allPlays_120 : decode cX10_allPlays 120 = .ok (.aload_n 0, 1) := by decide +kernel
theorem dX10_allPlays_121 : decode cX10_allPlays 121 = .ok (.getfield 221, 3) := by decide +kernel
theorem dX10_allPlays_124 : decode cX10_allPlays 124 = .ok (.ireturn, 1) := by decide +kernel
theorem dX10_allPlays_125 : decode cX10_allPlays 125 = .ok (.aload_n 0, 1) := by decide +kernel
theorem dX10_allPlays_126 : decode cX10_allPlays 126 = .ok (.iload_n 1, 1) := by decide +kernel
theorem dX10_allPlays_127 : decode cX10_allPlays 127 = .ok (.invokevirtual 234, 3) := by decide +kernel
theorem dX10_allPlays_130 : decode cX10_allPlays 130 = .ok (.ireturn, 1) := by decide +kernel
set_option maxRecDepth 20000 in
theorem ggX10_likePlays_X10_adds : GoodIn wsX10_likePlays wsX10_adds := goodIn_r _ [12, 3, 5, 7, 13, 14, 15, 11, 16, 2, 65, 66, 67, 68, 69, 70, 71, 72, 73, 74, 75, 76, 77, 78, 79, 80, 81, 82, 83, 84] (by decide +kernel) (by decide +kernel)
set_option maxRecDepth 20000 in
theorem gX10_likePlays_X10_adds : GoodIn wsX10_likePlays (wsV RX10 224 RX10 yX10_adds wsX10_adds) := goodIn_app (goodIn_of _ (by decide +kernel)) ggX10_likePlays_X10_adds
set_option maxRecDepth 20000 in
theorem ggX10_likePlays_X10_stands : GoodIn wsX10_likePlays wsX10_stands := goodIn_r _ [20, 2, 21, 65, 66, 67, 68, 69, 70, 71, 72, 73, 74, 75, 76, 77, 78, 79, 80, 81, 82, 83, 84] (by decide +kernel) (by decide +kernel)
set_option maxRecDepth 20000 in
theorem gX10_likePlays_X10_stands : GoodIn wsX10_likePlays (wsV RX10 237 RX10 yX10_stands wsX10_stands) := goodIn_app (goodIn_of _ (by decide +kernel)) ggX10_likePlays_X10_stands
set_option maxRecDepth 20000 in
theorem ggX10_likePlays_X10_addsOne : GoodIn wsX10_likePlays wsX10_addsOne := goodIn_r _ [25, 2, 26, 27, 28, 11, 29, 30, 31, 32, 33, 34, 35, 36, 37, 38, 39, 40, 41, 42, 43, 44, 45, 46, 47, 48, 49, 50, 51, 52, 53, 54, 55, 56, 57, 58, 59, 60, 8, 9, 10, 12, 3, 5, 7, 13, 14, 15, 16, 61, 62, 63, 64, 65, 66, 67, 68, 69, 70, 71, 72, 73, 74, 75, 76, 77, 78, 79, 80, 81, 82, 83, 84] (by decide +kernel) (by decide +kernel)
set_option maxRecDepth 20000 in
theorem gX10_likePlays_X10_addsOne : GoodIn wsX10_likePlays (wsV RX10 231 RX10 yX10_addsOne wsX10_addsOne) := goodIn_app (goodIn_of _ (by decide +kernel)) ggX10_likePlays_X10_addsOne
theorem dX10_likePlays_0 : decode cX10_likePlays 0 = .ok (.iconst 0, 1) := by decide +kernel
theorem dX10_likePlays_1 : decode cX10_likePlays 1 = .ok (.istore_n 2, 1) := by decide +kernel
theorem dX10_likePlays_2 : decode cX10_likePlays 2 = .ok (.iload_n 2, 1) := by decide +kernel
theorem dX10_likePlays_3 : decode cX10_likePlays 3 = .ok (.bipush 36, 2) := by decide +kernel
theorem dX10_likePlays_5 : decode cX10_likePlays 5 = .ok (.if_icmp .ge 21, 3) := by decide +kernel
theorem dX10_likePlays_8 : decode cX10_likePlays 8 = .ok (.aload_n 0, 1) := by decide +kernel
theorem dX10_likePlays_9 : decode cX10_likePlays 9 = .ok (.getfield 19, 3) := by decide +kernel
theorem dX10_likePlays_12 : decode cX10_likePlays 12 = .ok (.iload_n 2, 1) := by decide +kernel
theorem dX10_likePlays_13 : decode cX10_likePlays 13 = .ok (.aload_n 0, 1) := by decide +kernel
theorem dX10_likePlays_14 : decode cX10_likePlays 14 = .ok (.getfield 7, 3) := by decide +kernel
theorem dX10_likePlays_17 : decode cX10_likePlays 17 = .ok (.iload_n 2, 1) := by decide +kernel
theorem dX10_likePlays_18 : decode cX10_likePlays 18 = .ok (.iaload, 1) := by decide +kernel
theorem dX10_likePlays_19 : decode cX10_likePlays 19 = .ok (.iastore, 1) := by decide +kernel
theorem dX10_likePlays_20 : decode cX10_likePlays 20 = .ok (.iinc 2 1, 3) := by decide +kernel
theorem dX10_likePlays_23 : decode cX10_likePlays 23 = .ok (.goto (-21), 3) := by decide +kernel
theorem dX10_likePlays_26 : decode cX10_likePlays 26 = .ok (.aload_n 0, 1) := by decide +kernel
theorem dX10_likePlays_27 : decode cX10_likePlays 27 = .ok (.invokevirtual 224, 3) := by decide +kernel
theorem dX10_likePlays_30 : decode cX10_likePlays 30 = .ok (.iconst 0, 1) := by decide +kernel
theorem dX10_likePlays_31 : decode cX10_likePlays 31 = .ok (.istore_n 2, 1) := by decide +kernel
theorem dX10_likePlays_32 : decode cX10_likePlays 32 = .ok (.iload_n 2, 1) := by decide +kernel
theorem dX10_likePlays_33 : decode cX10_likePlays 33 = .ok (.iload_n 1, 1) := by decide +kernel
theorem dX10_likePlays_34 : decode cX10_likePlays 34 = .ok (.if_icmp .ge 112, 3) := by decide +kernel
theorem dX10_likePlays_37 : decode cX10_likePlays 37 = .ok (.aload_n 0, 1) := by decide +kernel
theorem dX10_likePlays_38 : decode cX10_likePlays 38 = .ok (.getfield 221, 3) := by decide +kernel
theorem dX10_likePlays_41 : decode cX10_likePlays 41 = .ok (.istore_n 3, 1) := by decide +kernel
theorem dX10_likePlays_42 : decode cX10_likePlays 42 = .ok (.iconst 0, 1) := by decide +kernel
theorem dX10_likePlays_43 : decode cX10_likePlays 43 = .ok (.istore 4, 2) := by decide +kernel
theorem dX10_likePlays_45 : decode cX10_likePlays 45 = .ok (.iload 4, 2) := by decide +kernel
theorem dX10_likePlays_47 : decode cX10_likePlays 47 = .ok (.iload_n 3, 1) := by decide +kernel
theorem dX10_likePlays_48 : decode cX10_likePlays 48 = .ok (.if_icmp .ge 37, 3) := by decide +kernel
theorem dX10_likePlays_51 : decode cX10_likePlays 51 = .ok (.aload_n 0, 1) := by decide +kernel
theorem dX10_likePlays_52 : decode cX10_likePlays 52 = .ok (.getfield 35, 3) := by decide +kernel
theorem dX10_likePlays_55 : decode cX10_likePlays 55 = .ok (.iload 4, 2) := by decide +kernel
theorem dX10_likePlays_57 : decode cX10_likePlays 57 = .ok (.aload_n 0, 1) := by decide +kernel
theorem dX10_likePlays_58 : decode cX10_likePlays 58 = .ok (.getfield 28, 3) := by decide +kernel
theorem dX10_likePlays_61 : decode cX10_likePlays 61 = .ok (.iload 4, 2) := by decide +kernel
theorem dX10_likePlays_63 : decode cX10_likePlays 63 = .ok (.laload, 1) := by decide +kernel
theorem dX10_likePlays_64 : decode cX10_likePlays 64 = .ok (.lastore, 1) := by decide +kernel
theorem dX10_likePlays_65 : decode cX10_likePlays 65 = .ok (.aload_n 0, 1) := by decide +kernel
theorem dX10_likePlays_66 : decode cX10_likePlays 66 = .ok (.getfield 38, 3) := by decide +kernel
theorem dX10_likePlays_69 : decode cX10_likePlays 69 = .ok (.iload 4, 2) := by decide +kernel
theorem dX10_likePlays_71 : decode cX10_likePlays 71 = .ok (.aload_n 0, 1) := by decide +kernel
theorem dX10_likePlays_72 : decode cX10_likePlays 72 = .ok (.getfield 32, 3) := by decide +kernel
theorem dX10_likePlays_75 : decode cX10_likePlays 75 = .ok (.iload 4, 2) := by decide +kernel
theorem dX10_likePlays_77 : decode cX10_likePlays 77 = .ok (.laload, 1) := by decide +kernel
theorem dX10_likePlays_78 : decode cX10_likePlays 78 = .ok (.lastore, 1) := by decide +kernel
theorem dX10_likePlays_79 : decode cX10_likePlays 79 = .ok (.iinc 4 1, 3) := by decide +kernel
theorem dX10_likePlays_82 : decode cX10_likePlays 82 = .ok (.goto (-37), 3) := by decide +kernel
theorem dX10_likePlays_85 : decode cX10_likePlays 85 = .ok (.aload_n 0, 1) := by decide +kernel
theorem dX10_likePlays_86 : decode cX10_likePlays 86 = .ok (.iconst 0, 1) := by decide +kernel
theorem dX10_likePlays_87 : decode cX10_likePlays 87 = .ok (.putfield 221, 3) := by decide +kernel
theorem dX10_likePlays_90 : decode cX10_likePlays 90 = .ok (.iconst 0, 1) := by decide +kernel
theorem dX10_likePlays_91 : decode cX10_likePlays 91 = .ok (.istore 4, 2) := by decide +kernel
theorem dX10_likePlays_93 : decode cX10_likePlays 93 = .ok (.iload 4, 2) := by decide +kernel
theorem dX10_likePlays_95 : decode cX10_likePlays 95 = .ok (.iload_n 3, 1) := by decide +kernel
theorem dX10_likePlays_96 : decode cX10_likePlays 96 = .ok (.if_icmp .ge 44, 3) := by decide +kernel
theorem dX10_likePlays_99 : decode cX10_likePlays 99 = .ok (.aload_n 0, 1) := by decide +kernel
theorem dX10_likePlays_100 : decode cX10_likePlays 100 = .ok (.iconst 0, 1) := by decide +kernel
theorem dX10_likePlays_101 : decode cX10_likePlays 101 = .ok (.aload_n 0, 1) := by decide +kernel
theorem dX10_likePlays_102 : decode cX10_likePlays 102 = .ok (.getfield 35, 3) := by decide +kernel
theorem dX10_likePlays_105 : decode cX10_likePlays 105 = .ok (.iload 4, 2) := by decide +kernel
theorem dX10_likePlays_107 : decode cX10_likePlays 107 = .ok (.laload, 1) := by decide +kernel
theorem dX10_likePlays_108 : decode cX10_likePlays 108 = .ok (.invokevirtual 237, 3) := by decide +kernel
theorem dX10_likePlays_111 : decode cX10_likePlays 111 = .ok (.aload_n 0, 1) := by decide +kernel
theorem dX10_likePlays_112 : decode cX10_likePlays 112 = .ok (.iconst 1, 1) := by decide +kernel
theorem dX10_likePlays_113 : decode cX10_likePlays 113 = .ok (.aload_n 0, 1) := by decide +kernel
theorem dX10_likePlays_114 : decode cX10_likePlays 114 = .ok (.getfield 38, 3) := by decide +kernel
theorem dX10_likePlays_117 : decode cX10_likePlays 117 = .ok (.iload 4, 2) := by decide +kernel
theorem dX10_likePlays_119 : decode cX10_likePlays 119 = .ok (.laload, 1) := by decide +kernel
theorem dX10_likePlays_120 : decode cX10_likePlays 120 = .ok (.invokevirtual 237, 3) := by decide +kernel
theorem dX10_likePlays_123 : decode cX10_likePlays 123 = .ok (.aload_n 0, 1) := by decide +kernel
theorem dX10_likePlays_124 : decode cX10_likePlays 124 = .ok (.aload_n 0, 1) := by decide +kernel
theorem dX10_likePlays_125 : decode cX10_likePlays 125 = .ok (.getfield 7, 3) := by decide +kernel
theorem dX10_likePlays_128 : decode cX10_likePlays 128 = .ok (.bipush 39, 2) := by decide +kernel
theorem dX10_likePlays_130 : decode cX10_likePlays 130 = .ok (.iaload, 1) := by decide +kernel
theorem dX10_likePlays_131 : decode cX10_likePlays 131 = .ok (.invokevirtual 231, 3) := by decide +kernel
theorem dX10_likePlays_134 : decode cX10_likePlays 134 = .ok (.iinc 4 1, 3) := by decide +kernel
theorem dX10_likePlays_137 : decode cX10_likePlays 137 = .ok (.goto (-44), 3) := by decide +kernel
theorem dX10_likePlays_140 : decode cX10_likePlays 140 = .ok (.iinc 2 1, 3) := by decide +kernel
theorem dX10_likePlays_143 : decode cX10_likePlays 143 = .ok (.goto (-111), 3) := by decide +kernel
theorem dX10_likePlays_146 : decode cX10_likePlays 146 = .ok (.iconst 0, 1) := by decide +kernel
theorem dX10_likePlays_147 : decode cX10_likePlays 147 = .ok (.istore_n 2, 1) := by decide +kernel
theorem dX10_likePlays_148 : decode cX10_likePlays 148 = .ok (.iload_n 2, 1) := by decide +kernel
theorem dX10_likePlays_149 : decode cX10_likePlays 149 = .ok (.bipush 36, 2) := by decide +kernel
theorem dX10_likePlays_151 : decode cX10_likePlays 151 = .ok (.if_icmp .ge 21, 3) := by decide +kernel
theorem dX10_likePlays_154 : decode cX10_likePlays 154 = .ok (.aload_n 0, 1) := by decide +kernel
theorem dX10_likePlays_155 : decode cX10_likePlays 155 = .ok (.getfield 7, 3) := by decide +kernel
theorem dX10_likePlays_158 : decode cX10_likePlays 158 = .ok (.iload_n 2, 1) := by decide +kernel
theorem dX10_likePlays_159 : decode cX10_likePlays 159 = .ok (.aload_n 0, 1) := by decide +kernel
theorem dX10_likePlays_160 : decode cX10_likePlays 160 = .ok (.getfield 19, 3) := by decide +kernel
theorem dX10_likePlays_163 : decode cX10_likePlays 163 = .ok (.iload_n 2, 1) := by decide +kernel
theorem dX10_likePlays_164 : decode cX10_likePlays 164 = .ok (.iaload, 1) := by decide +kernel
theorem dX10_likePlays_165 : decode cX10_likePlays 165 = .ok (.iastore, 1) := by decide +kernel
theorem dX10_likePlays_166 : decode cX10_likePlays 166 = .ok (.iinc 2 1, 3) := by decide +kernel
theorem dX10_likePlays_169 : decode cX10_likePlays 169 = .ok (.goto (-21), 3) := by decide +kernel
theorem dX10_likePlays_172 : decode cX10_likePlays 172 = .ok (.aload_n 0, 1) := by decide +kernel
theorem dX10_likePlays_173 : decode cX10_likePlays 173 = .ok (.getfield 221, 3) := by decide +kernel
theorem dX10_likePlays_176 : decode cX10_likePlays 176 = .ok (.ireturn, 1) := by decide +kernel
set_option maxRecDepth 20000 in
theorem ggX10_plays_X10_allPlays : GoodIn wsX10_plays wsX10_allPlays := goodIn_r _ [6, 7, 8, 9, 10, 11, 5, 12, 13, 14, 15, 16, 17, 18, 19, 20, 21, 22, 23, 24, 25, 26, 27, 28, 29, 30, 31, 32, 33, 34, 35, 36, 37, 38, 39, 40, 41, 42, 43, 44, 45, 46, 47, 48, 49, 50, 51, 52, 53, 54, 55, 56, 57, 58, 59, 60, 61, 62, 63, 64, 65, 66, 67, 68, 69, 70, 71, 72, 73, 74, 75, 76, 77, 78, 79, 80, 81, 82, 83, 84, 85, 86, 87, 88, 89, 90, 91, 92, 93, 94, 95, 96, 97, 98, 99, 100, 101, 102, 103, 104, 105, 106, 107, 108, 109, 110, 111, 112, 113, 114, 115, 116, 117] (by decide +kernel) (by decide +kernel)
set_option maxRecDepth 20000 in
theorem gX10_plays_X10_allPlays : GoodIn wsX10_plays (wsV RX10 241 RX10 yX10_allPlays wsX10_allPlays) := goodIn_app (goodIn_of _ (by decide +kernel)) ggX10_plays_X10_allPlays
theorem dX10_plays_0 : decode cX10_plays 0 = .ok (.aload_n 0, 1) := by decide +kernel
theorem dX10_plays_1 : decode cX10_plays 1 = .ok (.iconst 0, 1) := by decide +kernel
theorem dX10_plays_2 : decode cX10_plays 2 = .ok (.putfield 48, 3) := by decide +kernel
theorem dX10_plays_5 : decode cX10_plays 5 = .ok (.aload_n 0, 1) := by decide +kernel
theorem dX10_plays_6 : decode cX10_plays 6 = .ok (.invokevirtual 241, 3) := by decide +kernel
theorem dX10_plays_9 : decode cX10_plays 9 = .ok (.ireturn, 1) := by decide +kernel
set_option maxRecDepth 20000 in
theorem ggX10_playsByOrders_X10_allPlays : GoodIn wsX10_playsByOrders wsX10_allPlays := goodIn_r _ [6, 7, 8, 9, 10, 11, 5, 12, 13, 14, 15, 16, 17, 18, 19, 20, 21, 22, 23, 24, 25, 26, 27, 28, 29, 30, 31, 32, 33, 34, 35, 36, 37, 38, 39, 40, 41, 42, 43, 44, 45, 46, 47, 48, 49, 50, 51, 52, 53, 54, 55, 56, 57, 58, 59, 60, 61, 62, 63, 64, 65, 66, 67, 68, 69, 70, 71, 72, 73, 74, 75, 76, 77, 78, 79, 80, 81, 82, 83, 84, 85, 86, 87, 88, 89, 90, 91, 92, 93, 94, 95, 96, 97, 98, 99, 100, 101, 102, 103, 104, 105, 106, 107, 108, 109, 110, 111, 112, 113, 114, 115, 116, 117] (by decide +kernel) (by decide +kernel)
set_option maxRecDepth 20000 in
theorem gX10_playsByOrders_X10_allPlays : GoodIn wsX10_playsByOrders (wsV RX10 241 RX10 yX10_allPlays wsX10_allPlays) := goodIn_app (goodIn_of _ (by decide +kernel)) ggX10_playsByOrders_X10_allPlays
theorem dX10_playsByOrders_0 : decode cX10_playsByOrders 0 = .ok (.aload_n 0, 1) := by decide +kernel
theorem dX10_playsByOrders_1 : decode cX10_playsByOrders 1 = .ok (.iconst 0, 1) := by decide +kernel
theorem dX10_playsByOrders_2 : decode cX10_playsByOrders 2 = .ok (.putfield 48, 3) := by decide +kernel
theorem dX10_playsByOrders_5 : decode cX10_playsByOrders 5 = .ok (.aload_n 0, 1) := by decide +kernel
theorem dX10_playsByOrders_6 : decode cX10_playsByOrders 6 = .ok (.invokevirtual 241, 3) := by decide +kernel
theorem dX10_playsByOrders_9 : decode cX10_playsByOrders 9 = .ok (.ireturn, 1) := by decide +kernel
set_option maxRecDepth 20000 in
theorem ggX10_wouldPlay_X10_rolls : GoodIn wsX10_wouldPlay wsX10_rolls := goodIn_r _ [7, 2, 102, 103, 104, 105, 106, 107, 108, 109, 110, 111, 112, 113, 114, 115, 116, 117, 118, 119, 120, 121] (by decide +kernel) (by decide +kernel)
set_option maxRecDepth 20000 in
theorem gX10_wouldPlay_X10_rolls : GoodIn wsX10_wouldPlay (wsV RX10 131 RX10 yX10_rolls wsX10_rolls) := goodIn_app (goodIn_of _ (by decide +kernel)) ggX10_wouldPlay_X10_rolls
set_option maxRecDepth 20000 in
theorem ggX10_wouldPlay_X10_allPlays : GoodIn wsX10_wouldPlay wsX10_allPlays := goodIn_r _ [11, 12, 2, 13, 14, 15, 6, 16, 17, 18, 19, 20, 21, 22, 23, 24, 25, 26, 27, 28, 29, 30, 31, 32, 33, 34, 35, 36, 37, 38, 39, 40, 41, 42, 43, 44, 45, 46, 47, 48, 49, 50, 51, 52, 53, 54, 55, 56, 57, 58, 59, 60, 61, 62, 63, 64, 65, 66, 67, 68, 69, 70, 71, 72, 73, 74, 75, 76, 77, 78, 79, 80, 81, 82, 83, 84, 85, 86, 87, 88, 89, 90, 91, 92, 93, 94, 95, 96, 97, 98, 99, 100, 101, 102, 103, 104, 105, 106, 107, 108, 109, 110, 111, 112, 113, 114, 115, 116, 117, 118, 119, 120, 121] (by decide +kernel) (by decide +kernel)
set_option maxRecDepth 20000 in
theorem gX10_wouldPlay_X10_allPlays : GoodIn wsX10_wouldPlay (wsV RX10 241 RX10 yX10_allPlays wsX10_allPlays) := goodIn_app (goodIn_of _ (by decide +kernel)) ggX10_wouldPlay_X10_allPlays
theorem dX10_wouldPlay_0 : decode cX10_wouldPlay 0 = .ok (.iconst 0, 1) := by decide +kernel
theorem dX10_wouldPlay_1 : decode cX10_wouldPlay 1 = .ok (.istore_n 3, 1) := by decide +kernel
theorem dX10_wouldPlay_2 : decode cX10_wouldPlay 2 = .ok (.iload_n 3, 1) := by decide +kernel
theorem dX10_wouldPlay_3 : decode cX10_wouldPlay 3 = .ok (.bipush 6, 2) := by decide +kernel
theorem dX10_wouldPlay_5 : decode cX10_wouldPlay 5 = .ok (.if_icmp .ge 24, 3) := by decide +kernel
theorem dX10_wouldPlay_8 : decode cX10_wouldPlay 8 = .ok (.aload_n 0, 1) := by decide +kernel
theorem dX10_wouldPlay_9 : decode cX10_wouldPlay 9 = .ok (.getfield 41, 3) := by decide +kernel
theorem dX10_wouldPlay_12 : decode cX10_wouldPlay 12 = .ok (.iload_n 3, 1) := by decide +kernel
theorem dX10_wouldPlay_13 : decode cX10_wouldPlay 13 = .ok (.aload_n 0, 1) := by decide +kernel
theorem dX10_wouldPlay_14 : decode cX10_wouldPlay 14 = .ok (.getfield 7, 3) := by decide +kernel
theorem dX10_wouldPlay_17 : decode cX10_wouldPlay 17 = .ok (.bipush 37, 2) := by decide +kernel
theorem dX10_wouldPlay_19 : decode cX10_wouldPlay 19 = .ok (.iload_n 3, 1) := by decide +kernel
theorem dX10_wouldPlay_20 : decode cX10_wouldPlay 20 = .ok (.iadd, 1) := by decide +kernel
theorem dX10_wouldPlay_21 : decode cX10_wouldPlay 21 = .ok (.iaload, 1) := by decide +kernel
theorem dX10_wouldPlay_22 : decode cX10_wouldPlay 22 = .ok (.iastore, 1) := by decide +kernel
theorem dX10_wouldPlay_23 : decode cX10_wouldPlay 23 = .ok (.iinc 3 1, 3) := by decide +kernel
theorem dX10_wouldPlay_26 : decode cX10_wouldPlay 26 = .ok (.goto (-24), 3) := by decide +kernel
theorem dX10_wouldPlay_29 : decode cX10_wouldPlay 29 = .ok (.aload_n 0, 1) := by decide +kernel
theorem dX10_wouldPlay_30 : decode cX10_wouldPlay 30 = .ok (.iload_n 1, 1) := by decide +kernel
theorem dX10_wouldPlay_31 : decode cX10_wouldPlay 31 = .ok (.iload_n 2, 1) := by decide +kernel
theorem dX10_wouldPlay_32 : decode cX10_wouldPlay 32 = .ok (.invokevirtual 131, 3) := by decide +kernel
theorem dX10_wouldPlay_35 : decode cX10_wouldPlay 35 = .ok (.istore_n 3, 1) := by decide +kernel
theorem dX10_wouldPlay_36 : decode cX10_wouldPlay 36 = .ok (.iload_n 3, 1) := by decide +kernel
theorem dX10_wouldPlay_37 : decode cX10_wouldPlay 37 = .ok (.iconst 2, 1) := by decide +kernel
theorem dX10_wouldPlay_38 : decode cX10_wouldPlay 38 = .ok (.if_icmp .ne 19, 3) := by decide +kernel
theorem dX10_wouldPlay_41 : decode cX10_wouldPlay 41 = .ok (.aload_n 0, 1) := by decide +kernel
theorem dX10_wouldPlay_42 : decode cX10_wouldPlay 42 = .ok (.getfield 7, 3) := by decide +kernel
theorem dX10_wouldPlay_45 : decode cX10_wouldPlay 45 = .ok (.bipush 41, 2) := by decide +kernel
theorem dX10_wouldPlay_47 : decode cX10_wouldPlay 47 = .ok (.iconst 0, 1) := by decide +kernel
theorem dX10_wouldPlay_48 : decode cX10_wouldPlay 48 = .ok (.iastore, 1) := by decide +kernel
theorem dX10_wouldPlay_49 : decode cX10_wouldPlay 49 = .ok (.aload_n 0, 1) := by decide +kernel
theorem dX10_wouldPlay_50 : decode cX10_wouldPlay 50 = .ok (.getfield 7, 3) := by decide +kernel
theorem dX10_wouldPlay_53 : decode cX10_wouldPlay 53 = .ok (.bipush 42, 2) := by decide +kernel
theorem dX10_wouldPlay_55 : decode cX10_wouldPlay 55 = .ok (.iconst 0, 1) := by decide +kernel
theorem dX10_wouldPlay_56 : decode cX10_wouldPlay 56 = .ok (.iastore, 1) := by decide +kernel
theorem dX10_wouldPlay_57 : decode cX10_wouldPlay 57 = .ok (.aload_n 0, 1) := by decide +kernel
theorem dX10_wouldPlay_58 : decode cX10_wouldPlay 58 = .ok (.invokevirtual 241, 3) := by decide +kernel
theorem dX10_wouldPlay_61 : decode cX10_wouldPlay 61 = .ok (.istore 4, 2) := by decide +kernel
theorem dX10_wouldPlay_63 : decode cX10_wouldPlay 63 = .ok (.iconst 0, 1) := by decide +kernel
theorem dX10_wouldPlay_64 : decode cX10_wouldPlay 64 = .ok (.istore 5, 2) := by decide +kernel
theorem dX10_wouldPlay_66 : decode cX10_wouldPlay 66 = .ok (.iload 5, 2) := by decide +kernel
theorem dX10_wouldPlay_68 : decode cX10_wouldPlay 68 = .ok (.bipush 6, 2) := by decide +kernel
theorem dX10_wouldPlay_70 : decode cX10_wouldPlay 70 = .ok (.if_icmp .ge 26, 3) := by decide +kernel
theorem dX10_wouldPlay_73 : decode cX10_wouldPlay 73 = .ok (.aload_n 0, 1) := by decide +kernel
theorem dX10_wouldPlay_74 : decode cX10_wouldPlay 74 = .ok (.getfield 7, 3) := by decide +kernel
theorem dX10_wouldPlay_77 : decode cX10_wouldPlay 77 = .ok (.bipush 37, 2) := by decide +kernel
theorem dX10_wouldPlay_79 : decode cX10_wouldPlay 79 = .ok (.iload 5, 2) := by decide +kernel
theorem dX10_wouldPlay_81 : decode cX10_wouldPlay 81 = .ok (.iadd, 1) := by decide +kernel
theorem dX10_wouldPlay_82 : decode cX10_wouldPlay 82 = .ok (.aload_n 0, 1) := by decide +kernel
theorem dX10_wouldPlay_83 : decode cX10_wouldPlay 83 = .ok (.getfield 41, 3) := by decide +kernel
theorem dX10_wouldPlay_86 : decode cX10_wouldPlay 86 = .ok (.iload 5, 2) := by decide +kernel
theorem dX10_wouldPlay_88 : decode cX10_wouldPlay 88 = .ok (.iaload, 1) := by decide +kernel
theorem dX10_wouldPlay_89 : decode cX10_wouldPlay 89 = .ok (.iastore, 1) := by decide +kernel
theorem dX10_wouldPlay_90 : decode cX10_wouldPlay 90 = .ok (.iinc 5 1, 3) := by decide +kernel
theorem dX10_wouldPlay_93 : decode cX10_wouldPlay 93 = .ok (.goto (-27), 3) := by decide +kernel
theorem dX10_wouldPlay_96 : decode cX10_wouldPlay 96 = .ok (.iload 4, 2) := by decide +kernel
theorem dX10_wouldPlay_98 : decode cX10_wouldPlay 98 = .ok (.ireturn, 1) := by decide +kernel
set_option maxRecDepth 20000 in
theorem ggX10_playsWith_X10_in : GoodIn wsX10_playsWith wsX10_in := goodIn_r _ [5] (by decide +kernel) (by decide +kernel)
set_option maxRecDepth 20000 in
theorem gX10_playsWith_X10_in : GoodIn wsX10_playsWith (va_wsS RX10 52 yX10_in wsX10_in) := goodIn_app (goodIn_of _ (by decide +kernel)) ggX10_playsWith_X10_in
set_option maxRecDepth 20000 in
theorem ggX10_playsWith_X10_wouldPlay : GoodIn wsX10_playsWith wsX10_wouldPlay := goodIn_r _ [9, 10, 11, 12, 13, 14, 4, 15, 16, 17, 18, 19, 20, 21, 22, 23, 24, 25, 26, 27, 28, 29, 30, 31, 32, 33, 34, 35, 36, 37, 38, 39, 40, 41, 42, 43, 44, 45, 46, 47, 48, 49, 50, 51, 52, 53, 54, 55, 56, 57, 58, 59, 60, 61, 62, 63, 64, 65, 66, 67, 68, 69, 70, 71, 72, 73, 74, 75, 76, 77, 78, 79, 80, 81, 82, 83, 84, 85, 86, 87, 88, 89, 90, 91, 92, 93, 94, 95, 96, 97, 98, 99, 100, 101, 102, 103, 104, 105, 106, 107, 108, 109, 114, 115, 116, 117, 118, 119, 120, 121, 122, 123, 124, 125, 126, 127, 128, 129, 130, 131, 132, 133] (by decide +kernel) (by decide +kernel)
set_option maxRecDepth 20000 in
theorem gX10_playsWith_X10_wouldPlay : GoodIn wsX10_playsWith (wsV RX10 244 RX10 yX10_wouldPlay wsX10_wouldPlay) := goodIn_app (goodIn_of _ (by decide +kernel)) ggX10_playsWith_X10_wouldPlay
set_option maxRecDepth 20000 in
theorem ggX10_playsWith_X10_throwing : GoodIn wsX10_playsWith wsX10_throwing := goodIn_r _ [113, 1, 114, 115, 116, 117, 118, 119, 120, 121, 122, 123, 124, 125, 126, 127, 128, 129, 130, 131, 132, 133] (by decide +kernel) (by decide +kernel)
set_option maxRecDepth 20000 in
theorem gX10_playsWith_X10_throwing : GoodIn wsX10_playsWith (wsV RX10 125 RX10 yX10_throwing wsX10_throwing) := goodIn_app (goodIn_of _ (by decide +kernel)) ggX10_playsWith_X10_throwing
theorem dX10_playsWith_0 : decode cX10_playsWith 0 = .ok (.aload_n 0, 1) := by decide +kernel
theorem dX10_playsWith_1 : decode cX10_playsWith 1 = .ok (.iconst 0, 1) := by decide +kernel
theorem dX10_playsWith_2 : decode cX10_playsWith 2 = .ok (.putfield 48, 3) := by decide +kernel
theorem dX10_playsWith_5 : decode cX10_playsWith 5 = .ok (.iload_n 1, 1) := by decide +kernel
theorem dX10_playsWith_6 : decode cX10_playsWith 6 = .ok (.iconst 1, 1) := by decide +kernel
theorem dX10_playsWith_7 : decode cX10_playsWith 7 = .ok (.bipush 6, 2) := by decide +kernel
theorem dX10_playsWith_9 : decode cX10_playsWith 9 = .ok (.invokestatic 52, 3) := by decide +kernel
theorem dX10_playsWith_12 : decode cX10_playsWith 12 = .ok (.ifCond .eq 22, 3) := by decide +kernel
theorem dX10_playsWith_15 : decode cX10_playsWith 15 = .ok (.iload_n 2, 1) := by decide +kernel
theorem dX10_playsWith_16 : decode cX10_playsWith 16 = .ok (.iconst 1, 1) := by decide +kernel
theorem dX10_playsWith_17 : decode cX10_playsWith 17 = .ok (.bipush 6, 2) := by decide +kernel
theorem dX10_playsWith_19 : decode cX10_playsWith 19 = .ok (.invokestatic 52, 3) := by decide +kernel
theorem dX10_playsWith_22 : decode cX10_playsWith 22 = .ok (.ifCond .eq 12, 3) := by decide +kernel
theorem dX10_playsWith_25 : decode cX10_playsWith 25 = .ok (.aload_n 0, 1) := by decide +kernel
theorem dX10_playsWith_26 : decode cX10_playsWith 26 = .ok (.iload_n 1, 1) := by decide +kernel
theorem dX10_playsWith_27 : decode cX10_playsWith 27 = .ok (.iload_n 2, 1) := by decide +kernel
theorem dX10_playsWith_28 : decode cX10_playsWith 28 = .ok (.invokevirtual 244, 3) := by decide +kernel
theorem dX10_playsWith_31 : decode cX10_playsWith 31 = .ok (.goto 8, 3) := by decide +kernel
theorem dX10_playsWith_34 : decode cX10_playsWith 34 = .ok (.aload_n 0, 1) := by decide +kernel
theorem dX10_playsWith_35 : decode cX10_playsWith 35 = .ok (.iconst 1, 1) := by decide +kernel
theorem dX10_playsWith_36 : decode cX10_playsWith 36 = .ok (.invokevirtual 125, 3) := by decide +kernel
theorem dX10_playsWith_39 : decode cX10_playsWith 39 = .ok (.ireturn, 1) := by decide +kernel
set_option maxRecDepth 20000 in
theorem ggX10_hitsBy_X10_refused : GoodIn wsX10_hitsBy wsX10_refused := goodIn_r _ [5, 6, 7, 8, 4, 9, 10, 11, 12, 13, 14, 15, 16, 17, 18, 19, 20, 21, 22, 23, 24, 42, 43, 44, 45, 46, 47, 48, 49, 50, 51, 52, 53, 54, 55, 56, 57, 58, 59, 60, 61] (by decide +kernel) (by decide +kernel)
set_option maxRecDepth 20000 in
theorem gX10_hitsBy_X10_refused : GoodIn wsX10_hitsBy (wsV RX10 85 RX10 yX10_refused wsX10_refused) := goodIn_app (goodIn_of _ (by decide +kernel)) ggX10_hitsBy_X10_refused
set_option maxRecDepth 20000 in
theorem ggX10_hitsBy_X10_target : GoodIn wsX10_hitsBy wsX10_target := goodIn_r _ [13] (by decide +kernel) (by decide +kernel)
set_option maxRecDepth 20000 in
theorem gX10_hitsBy_X10_target : GoodIn wsX10_hitsBy (va_wsS RX10 73 yX10_target wsX10_target) := goodIn_app (goodIn_of _ (by decide +kernel)) ggX10_hitsBy_X10_target
set_option maxRecDepth 20000 in
theorem ggX10_hitsBy_X10_lays : GoodIn wsX10_hitsBy wsX10_lays := goodIn_r _ [28, 29, 10, 42, 43, 44, 45, 46, 47, 48, 49, 50, 51, 52, 53, 54, 55, 56, 57, 58, 59, 60, 61] (by decide +kernel) (by decide +kernel)
set_option maxRecDepth 20000 in
theorem gX10_hitsBy_X10_lays : GoodIn wsX10_hitsBy (wsV RX10 88 RX10 yX10_lays wsX10_lays) := goodIn_app (goodIn_of _ (by decide +kernel)) ggX10_hitsBy_X10_lays
set_option maxRecDepth 20000 in
theorem ggX10_hitsBy_X10_moves : GoodIn wsX10_hitsBy wsX10_moves := goodIn_r _ [33, 11, 12, 4, 13, 6, 7, 8, 9, 10, 34, 35, 36, 37, 42, 43, 44, 45, 46, 47, 48, 49, 50, 51, 52, 53, 54, 55, 56, 57, 58, 59, 60, 61] (by decide +kernel) (by decide +kernel)
set_option maxRecDepth 20000 in
theorem gX10_hitsBy_X10_moves : GoodIn wsX10_hitsBy (wsV RX10 91 RX10 yX10_moves wsX10_moves) := goodIn_app (goodIn_of _ (by decide +kernel)) ggX10_hitsBy_X10_moves
set_option maxRecDepth 20000 in
theorem ggX10_hitsBy_X10_takesUp : GoodIn wsX10_hitsBy wsX10_takesUp := goodIn_r _ [41, 10, 29, 42, 43, 44, 45, 46, 47, 48, 49, 50, 51, 52, 53, 54, 55, 56, 57, 58, 59, 60, 61] (by decide +kernel) (by decide +kernel)
set_option maxRecDepth 20000 in
theorem gX10_hitsBy_X10_takesUp : GoodIn wsX10_hitsBy (wsV RX10 97 RX10 yX10_takesUp wsX10_takesUp) := goodIn_app (goodIn_of _ (by decide +kernel)) ggX10_hitsBy_X10_takesUp
theorem dX10_hitsBy_0 : decode cX10_hitsBy 0 = .ok (.iconst 0, 1) := by decide +kernel
theorem dX10_hitsBy_1 : decode cX10_hitsBy 1 = .ok (.istore 5, 2) := by decide +kernel
theorem dX10_hitsBy_3 : decode cX10_hitsBy 3 = .ok (.iconst (-1), 1) := by decide +kernel
theorem dX10_hitsBy_4 : decode cX10_hitsBy 4 = .ok (.istore 6, 2) := by decide +kernel
theorem dX10_hitsBy_6 : decode cX10_hitsBy 6 = .ok (.iload 6, 2) := by decide +kernel
theorem dX10_hitsBy_8 : decode cX10_hitsBy 8 = .ok (.bipush 16, 2) := by decide +kernel
theorem dX10_hitsBy_10 : decode cX10_hitsBy 10 = .ok (.if_icmp .ge 115, 3) := by decide +kernel
theorem dX10_hitsBy_13 : decode cX10_hitsBy 13 = .ok (.iload 5, 2) := by decide +kernel
theorem dX10_hitsBy_15 : decode cX10_hitsBy 15 = .ok (.ifCond .ne 110, 3) := by decide +kernel
theorem dX10_hitsBy_18 : decode cX10_hitsBy 18 = .ok (.aload_n 0, 1) := by decide +kernel
theorem dX10_hitsBy_19 : decode cX10_hitsBy 19 = .ok (.iload_n 1, 1) := by decide +kernel
theorem dX10_hitsBy_20 : decode cX10_hitsBy 20 = .ok (.iload 6, 2) := by decide +kernel
theorem dX10_hitsBy_22 : decode cX10_hitsBy 22 = .ok (.iload_n 3, 1) := by decide +kernel
theorem dX10_hitsBy_23 : decode cX10_hitsBy 23 = .ok (.invokevirtual 85, 3) := by decide +kernel
theorem dX10_hitsBy_26 : decode cX10_hitsBy 26 = .ok (.ifCond .ne 93, 3) := by decide +kernel
theorem dX10_hitsBy_29 : decode cX10_hitsBy 29 = .ok (.iload_n 1, 1) := by decide +kernel
theorem dX10_hitsBy_30 : decode cX10_hitsBy 30 = .ok (.iload 6, 2) := by decide +kernel
theorem dX10_hitsBy_32 : decode cX10_hitsBy 32 = .ok (.iload_n 3, 1) := by decide +kernel
theorem dX10_hitsBy_33 : decode cX10_hitsBy 33 = .ok (.invokestatic 73, 3) := by decide +kernel
theorem dX10_hitsBy_36 : decode cX10_hitsBy 36 = .ok (.iload_n 2, 1) := by decide +kernel
theorem dX10_hitsBy_37 : decode cX10_hitsBy 37 = .ok (.if_icmp .ne 7, 3) := by decide +kernel
theorem dX10_hitsBy_40 : decode cX10_hitsBy 40 = .ok (.iconst 1, 1) := by decide +kernel
theorem dX10_hitsBy_41 : decode cX10_hitsBy 41 = .ok (.goto 4, 3) := by decide +kernel
theorem dX10_hitsBy_44 : decode cX10_hitsBy 44 = .ok (.iconst 0, 1) := by decide +kernel
theorem dX10_hitsBy_45 : decode cX10_hitsBy 45 = .ok (.istore 5, 2) := by decide +kernel
theorem dX10_hitsBy_47 : decode cX10_hitsBy 47 = .ok (.aload_n 0, 1) := by decide +kernel
theorem dX10_hitsBy_48 : decode cX10_hitsBy 48 = .ok (.iconst 0, 1) := by decide +kernel
theorem dX10_hitsBy_49 : decode cX10_hitsBy 49 = .ok (.invokevirtual 88, 3) := by decide +kernel
theorem dX10_hitsBy_52 : decode cX10_hitsBy 52 = .ok (.aload_n 0, 1) := by decide +kernel
theorem dX10_hitsBy_53 : decode cX10_hitsBy 53 = .ok (.iload_n 1, 1) := by decide +kernel
theorem dX10_hitsBy_54 : decode cX10_hitsBy 54 = .ok (.iload 6, 2) := by decide +kernel
theorem dX10_hitsBy_56 : decode cX10_hitsBy 56 = .ok (.iload_n 3, 1) := by decide +kernel
theorem dX10_hitsBy_57 : decode cX10_hitsBy 57 = .ok (.invokevirtual 91, 3) := by decide +kernel
theorem dX10_hitsBy_60 : decode cX10_hitsBy 60 = .ok (.istore 7, 2) := by decide +kernel
theorem dX10_hitsBy_62 : decode cX10_hitsBy 62 = .ok (.iconst (-1), 1) := by decide +kernel
theorem dX10_hitsBy_63 : decode cX10_hitsBy 63 = .ok (.istore 8, 2) := by decide +kernel
theorem dX10_hitsBy_65 : decode cX10_hitsBy 65 = .ok (.iload 8, 2) := by decide +kernel
theorem dX10_hitsBy_67 : decode cX10_hitsBy 67 = .ok (.bipush 16, 2) := by decide +kernel
theorem dX10_hitsBy_69 : decode cX10_hitsBy 69 = .ok (.if_icmp .ge 45, 3) := by decide +kernel
theorem dX10_hitsBy_72 : decode cX10_hitsBy 72 = .ok (.iload 5, 2) := by decide +kernel
theorem dX10_hitsBy_74 : decode cX10_hitsBy 74 = .ok (.ifCond .ne 40, 3) := by decide +kernel
theorem dX10_hitsBy_77 : decode cX10_hitsBy 77 = .ok (.aload_n 0, 1) := by decide +kernel
theorem dX10_hitsBy_78 : decode cX10_hitsBy 78 = .ok (.iload_n 1, 1) := by decide +kernel
theorem dX10_hitsBy_79 : decode cX10_hitsBy 79 = .ok (.iload 8, 2) := by decide +kernel
theorem dX10_hitsBy_81 : decode cX10_hitsBy 81 = .ok (.iload 4, 2) := by decide +kernel
theorem dX10_hitsBy_83 : decode cX10_hitsBy 83 = .ok (.invokevirtual 85, 3) := by decide +kernel
theorem dX10_hitsBy_86 : decode cX10_hitsBy 86 = .ok (.ifCond .ne 19, 3) := by decide +kernel
theorem dX10_hitsBy_89 : decode cX10_hitsBy 89 = .ok (.iload_n 1, 1) := by decide +kernel
theorem dX10_hitsBy_90 : decode cX10_hitsBy 90 = .ok (.iload 8, 2) := by decide +kernel
theorem dX10_hitsBy_92 : decode cX10_hitsBy 92 = .ok (.iload 4, 2) := by decide +kernel
theorem dX10_hitsBy_94 : decode cX10_hitsBy 94 = .ok (.invokestatic 73, 3) := by decide +kernel
theorem dX10_hitsBy_97 : decode cX10_hitsBy 97 = .ok (.iload_n 2, 1) := by decide +kernel
theorem dX10_hitsBy_98 : decode cX10_hitsBy 98 = .ok (.if_icmp .ne 7, 3) := by decide +kernel
theorem dX10_hitsBy_101 : decode cX10_hitsBy 101 = .ok (.iconst 1, 1) := by decide +kernel
theorem dX10_hitsBy_102 : decode cX10_hitsBy 102 = .ok (.goto 4, 3) := by decide +kernel
theorem dX10_hitsBy_105 : decode cX10_hitsBy 105 = .ok (.iconst 0, 1) := by decide +kernel
theorem dX10_hitsBy_106 : decode cX10_hitsBy 106 = .ok (.istore 5, 2) := by decide +kernel
theorem dX10_hitsBy_108 : decode cX10_hitsBy 108 = .ok (.iinc 8 1, 3) := by decide +kernel
theorem dX10_hitsBy_111 : decode cX10_hitsBy 111 = .ok (.goto (-46), 3) := by decide +kernel
theorem dX10_hitsBy_114 : decode cX10_hitsBy 114 = .ok (.aload_n 0, 1) := by decide +kernel
theorem dX10_hitsBy_115 : decode cX10_hitsBy 115 = .ok (.iconst 0, 1) := by decide +kernel
theorem dX10_hitsBy_116 : decode cX10_hitsBy 116 = .ok (.invokevirtual 97, 3) := by decide +kernel
theorem dX10_hitsBy_119 : decode cX10_hitsBy 119 = .ok (.iinc 6 1, 3) := by decide +kernel
theorem dX10_hitsBy_122 : decode cX10_hitsBy 122 = .ok (.goto (-116), 3) := by decide +kernel
theorem dX10_hitsBy_125 : decode cX10_hitsBy 125 = .ok (.iload 5, 2) := by decide +kernel
theorem dX10_hitsBy_127 : decode cX10_hitsBy 127 = .ok (.ireturn, 1) := by decide +kernel
set_option maxRecDepth 20000 in
theorem ggX10_hitsByLike_X10_lays : GoodIn wsX10_hitsByLike wsX10_lays := goodIn_r _ [5, 6, 7, 42, 43, 44, 45, 46, 47, 48, 49, 50, 51, 52, 53, 54, 55, 56, 57, 58, 59, 60, 61] (by decide +kernel) (by decide +kernel)
set_option maxRecDepth 20000 in
theorem gX10_hitsByLike_X10_lays : GoodIn wsX10_hitsByLike (wsV RX10 88 RX10 yX10_lays wsX10_lays) := goodIn_app (goodIn_of _ (by decide +kernel)) ggX10_hitsByLike_X10_lays
set_option maxRecDepth 20000 in
theorem ggX10_hitsByLike_X10_at : GoodIn wsX10_hitsByLike wsX10_at := goodIn_r _ [11, 7, 42, 43, 44, 45, 46, 47, 48, 49, 50, 51, 52, 53, 54, 55, 56, 57, 58, 59, 60, 61] (by decide +kernel) (by decide +kernel)
set_option maxRecDepth 20000 in
theorem gX10_hitsByLike_X10_at : GoodIn wsX10_hitsByLike (wsV RX10 66 RX10 yX10_at wsX10_at) := goodIn_app (goodIn_of _ (by decide +kernel)) ggX10_hitsByLike_X10_at
set_option maxRecDepth 20000 in
theorem ggX10_hitsByLike_X10_refused : GoodIn wsX10_hitsByLike wsX10_refused := goodIn_r _ [15, 8, 9, 10, 4, 11, 7, 16, 17, 18, 19, 20, 21, 22, 23, 24, 25, 26, 27, 28, 29, 42, 43, 44, 45, 46, 47, 48, 49, 50, 51, 52, 53, 54, 55, 56, 57, 58, 59, 60, 61] (by decide +kernel) (by decide +kernel)
set_option maxRecDepth 20000 in
theorem gX10_hitsByLike_X10_refused : GoodIn wsX10_hitsByLike (wsV RX10 85 RX10 yX10_refused wsX10_refused) := goodIn_app (goodIn_of _ (by decide +kernel)) ggX10_hitsByLike_X10_refused
set_option maxRecDepth 20000 in
theorem ggX10_hitsByLike_X10_target : GoodIn wsX10_hitsByLike wsX10_target := goodIn_r _ [18] (by decide +kernel) (by decide +kernel)
set_option maxRecDepth 20000 in
theorem gX10_hitsByLike_X10_target : GoodIn wsX10_hitsByLike (va_wsS RX10 73 yX10_target wsX10_target) := goodIn_app (goodIn_of _ (by decide +kernel)) ggX10_hitsByLike_X10_target
set_option maxRecDepth 20000 in
theorem ggX10_hitsByLike_X10_moves : GoodIn wsX10_hitsByLike wsX10_moves := goodIn_r _ [33, 16, 17, 4, 18, 8, 9, 10, 11, 7, 34, 35, 36, 37, 42, 43, 44, 45, 46, 47, 48, 49, 50, 51, 52, 53, 54, 55, 56, 57, 58, 59, 60, 61] (by decide +kernel) (by decide +kernel)
set_option maxRecDepth 20000 in
theorem gX10_hitsByLike_X10_moves : GoodIn wsX10_hitsByLike (wsV RX10 91 RX10 yX10_moves wsX10_moves) := goodIn_app (goodIn_of _ (by decide +kernel)) ggX10_hitsByLike_X10_moves
set_option maxRecDepth 20000 in
theorem ggX10_hitsByLike_X10_isBlock : GoodIn wsX10_hitsByLike wsX10_isBlock := goodIn_r _ [22, 8, 9, 10, 4, 11, 7, 42, 43, 44, 45, 46, 47, 48, 49, 50, 51, 52, 53, 54, 55, 56, 57, 58, 59, 60, 61] (by decide +kernel) (by decide +kernel)
set_option maxRecDepth 20000 in
theorem gX10_hitsByLike_X10_isBlock : GoodIn wsX10_hitsByLike (wsV RX10 77 RX10 yX10_isBlock wsX10_isBlock) := goodIn_app (goodIn_of _ (by decide +kernel)) ggX10_hitsByLike_X10_isBlock
set_option maxRecDepth 20000 in
theorem ggX10_hitsByLike_X10_takesUp : GoodIn wsX10_hitsByLike wsX10_takesUp := goodIn_r _ [41, 7, 6, 42, 43, 44, 45, 46, 47, 48, 49, 50, 51, 52, 53, 54, 55, 56, 57, 58, 59, 60, 61] (by decide +kernel) (by decide +kernel)
set_option maxRecDepth 20000 in
theorem gX10_hitsByLike_X10_takesUp : GoodIn wsX10_hitsByLike (wsV RX10 97 RX10 yX10_takesUp wsX10_takesUp) := goodIn_app (goodIn_of _ (by decide +kernel)) ggX10_hitsByLike_X10_takesUp
theorem dX10_hitsByLike_0 : decode cX10_hitsByLike 0 = .ok (.aload_n 0, 1) := by decide +kernel
theorem dX10_hitsByLike_1 : decode cX10_hitsByLike 1 = .ok (.iconst 0, 1) := by decide +kernel
theorem dX10_hitsByLike_2 : decode cX10_hitsByLike 2 = .ok (.invokevirtual 88, 3) := by decide +kernel
theorem dX10_hitsByLike_5 : decode cX10_hitsByLike 5 = .ok (.iconst 0, 1) := by decide +kernel
theorem dX10_hitsByLike_6 : decode cX10_hitsByLike 6 = .ok (.istore 4, 2) := by decide +kernel
theorem dX10_hitsByLike_8 : decode cX10_hitsByLike 8 = .ok (.iconst 4, 1) := by decide +kernel
theorem dX10_hitsByLike_9 : decode cX10_hitsByLike 9 = .ok (.istore 5, 2) := by decide +kernel
theorem dX10_hitsByLike_11 : decode cX10_hitsByLike 11 = .ok (.iload 4, 2) := by decide +kernel
theorem dX10_hitsByLike_13 : decode cX10_hitsByLike 13 = .ok (.ifCond .ne 59, 3) := by decide +kernel
theorem dX10_hitsByLike_16 : decode cX10_hitsByLike 16 = .ok (.iload 5, 2) := by decide +kernel
theorem dX10_hitsByLike_18 : decode cX10_hitsByLike 18 = .ok (.ifCond .le 54, 3) := by decide +kernel
theorem dX10_hitsByLike_21 : decode cX10_hitsByLike 21 = .ok (.aload_n 0, 1) := by decide +kernel
theorem dX10_hitsByLike_22 : decode cX10_hitsByLike 22 = .ok (.iload_n 1, 1) := by decide +kernel
theorem dX10_hitsByLike_23 : decode cX10_hitsByLike 23 = .ok (.iconst (-1), 1) := by decide +kernel
theorem dX10_hitsByLike_24 : decode cX10_hitsByLike 24 = .ok (.invokevirtual 66, 3) := by decide +kernel
theorem dX10_hitsByLike_27 : decode cX10_hitsByLike 27 = .ok (.ifCond .le 45, 3) := by decide +kernel
theorem dX10_hitsByLike_30 : decode cX10_hitsByLike 30 = .ok (.aload_n 0, 1) := by decide +kernel
theorem dX10_hitsByLike_31 : decode cX10_hitsByLike 31 = .ok (.iload_n 1, 1) := by decide +kernel
theorem dX10_hitsByLike_32 : decode cX10_hitsByLike 32 = .ok (.iconst (-1), 1) := by decide +kernel
theorem dX10_hitsByLike_33 : decode cX10_hitsByLike 33 = .ok (.iload_n 3, 1) := by decide +kernel
theorem dX10_hitsByLike_34 : decode cX10_hitsByLike 34 = .ok (.invokevirtual 85, 3) := by decide +kernel
theorem dX10_hitsByLike_37 : decode cX10_hitsByLike 37 = .ok (.ifCond .ne 35, 3) := by decide +kernel
theorem dX10_hitsByLike_40 : decode cX10_hitsByLike 40 = .ok (.iload_n 1, 1) := by decide +kernel
theorem dX10_hitsByLike_41 : decode cX10_hitsByLike 41 = .ok (.iconst (-1), 1) := by decide +kernel
theorem dX10_hitsByLike_42 : decode cX10_hitsByLike 42 = .ok (.iload_n 3, 1) := by decide +kernel
theorem dX10_hitsByLike_43 : decode cX10_hitsByLike 43 = .ok (.invokestatic 73, 3) := by decide +kernel
theorem dX10_hitsByLike_46 : decode cX10_hitsByLike 46 = .ok (.iload_n 2, 1) := by decide +kernel
theorem dX10_hitsByLike_47 : decode cX10_hitsByLike 47 = .ok (.if_icmp .ne 7, 3) := by decide +kernel
theorem dX10_hitsByLike_50 : decode cX10_hitsByLike 50 = .ok (.iconst 1, 1) := by decide +kernel
theorem dX10_hitsByLike_51 : decode cX10_hitsByLike 51 = .ok (.goto 4, 3) := by decide +kernel
theorem dX10_hitsByLike_54 : decode cX10_hitsByLike 54 = .ok (.iconst 0, 1) := by decide +kernel
theorem dX10_hitsByLike_55 : decode cX10_hitsByLike 55 = .ok (.istore 4, 2) := by decide +kernel
theorem dX10_hitsByLike_57 : decode cX10_hitsByLike 57 = .ok (.aload_n 0, 1) := by decide +kernel
theorem dX10_hitsByLike_58 : decode cX10_hitsByLike 58 = .ok (.iload_n 1, 1) := by decide +kernel
theorem dX10_hitsByLike_59 : decode cX10_hitsByLike 59 = .ok (.iconst (-1), 1) := by decide +kernel
theorem dX10_hitsByLike_60 : decode cX10_hitsByLike 60 = .ok (.iload_n 3, 1) := by decide +kernel
theorem dX10_hitsByLike_61 : decode cX10_hitsByLike 61 = .ok (.invokevirtual 91, 3) := by decide +kernel
theorem dX10_hitsByLike_64 : decode cX10_hitsByLike 64 = .ok (.istore 6, 2) := by decide +kernel
theorem dX10_hitsByLike_66 : decode cX10_hitsByLike 66 = .ok (.iinc 5 (-1), 3) := by decide +kernel
theorem dX10_hitsByLike_69 : decode cX10_hitsByLike 69 = .ok (.goto (-58), 3) := by decide +kernel
theorem dX10_hitsByLike_72 : decode cX10_hitsByLike 72 = .ok (.iload 4, 2) := by decide +kernel
theorem dX10_hitsByLike_74 : decode cX10_hitsByLike 74 = .ok (.ifCond .ne 128, 3) := by decide +kernel
theorem dX10_hitsByLike_77 : decode cX10_hitsByLike 77 = .ok (.aload_n 0, 1) := by decide +kernel
theorem dX10_hitsByLike_78 : decode cX10_hitsByLike 78 = .ok (.iload_n 1, 1) := by decide +kernel
theorem dX10_hitsByLike_79 : decode cX10_hitsByLike 79 = .ok (.iconst (-1), 1) := by decide +kernel
theorem dX10_hitsByLike_80 : decode cX10_hitsByLike 80 = .ok (.invokevirtual 66, 3) := by decide +kernel
theorem dX10_hitsByLike_83 : decode cX10_hitsByLike 83 = .ok (.ifCond .ne 119, 3) := by decide +kernel
theorem dX10_hitsByLike_86 : decode cX10_hitsByLike 86 = .ok (.iconst 0, 1) := by decide +kernel
theorem dX10_hitsByLike_87 : decode cX10_hitsByLike 87 = .ok (.istore 6, 2) := by decide +kernel
theorem dX10_hitsByLike_89 : decode cX10_hitsByLike 89 = .ok (.iload 6, 2) := by decide +kernel
theorem dX10_hitsByLike_91 : decode cX10_hitsByLike 91 = .ok (.bipush 16, 2) := by decide +kernel
theorem dX10_hitsByLike_93 : decode cX10_hitsByLike 93 = .ok (.if_icmp .ge 109, 3) := by decide +kernel
theorem dX10_hitsByLike_96 : decode cX10_hitsByLike 96 = .ok (.iload 6, 2) := by decide +kernel
theorem dX10_hitsByLike_98 : decode cX10_hitsByLike 98 = .ok (.istore 7, 2) := by decide +kernel
theorem dX10_hitsByLike_100 : decode cX10_hitsByLike 100 = .ok (.aload_n 0, 1) := by decide +kernel
theorem dX10_hitsByLike_101 : decode cX10_hitsByLike 101 = .ok (.iload_n 1, 1) := by decide +kernel
theorem dX10_hitsByLike_102 : decode cX10_hitsByLike 102 = .ok (.iload 6, 2) := by decide +kernel
theorem dX10_hitsByLike_104 : decode cX10_hitsByLike 104 = .ok (.invokevirtual 66, 3) := by decide +kernel
theorem dX10_hitsByLike_107 : decode cX10_hitsByLike 107 = .ok (.ifCond .le 7, 3) := by decide +kernel
theorem dX10_hitsByLike_110 : decode cX10_hitsByLike 110 = .ok (.iconst 1, 1) := by decide +kernel
theorem dX10_hitsByLike_111 : decode cX10_hitsByLike 111 = .ok (.goto 4, 3) := by decide +kernel
theorem dX10_hitsByLike_114 : decode cX10_hitsByLike 114 = .ok (.iconst 0, 1) := by decide +kernel
theorem dX10_hitsByLike_115 : decode cX10_hitsByLike 115 = .ok (.istore 8, 2) := by decide +kernel
theorem dX10_hitsByLike_117 : decode cX10_hitsByLike 117 = .ok (.iconst 0, 1) := by decide +kernel
theorem dX10_hitsByLike_118 : decode cX10_hitsByLike 118 = .ok (.istore 9, 2) := by decide +kernel
theorem dX10_hitsByLike_120 : decode cX10_hitsByLike 120 = .ok (.iload 9, 2) := by decide +kernel
theorem dX10_hitsByLike_122 : decode cX10_hitsByLike 122 = .ok (.iload 5, 2) := by decide +kernel
theorem dX10_hitsByLike_124 : decode cX10_hitsByLike 124 = .ok (.if_icmp .ge 72, 3) := by decide +kernel
theorem dX10_hitsByLike_127 : decode cX10_hitsByLike 127 = .ok (.iload 8, 2) := by decide +kernel
theorem dX10_hitsByLike_129 : decode cX10_hitsByLike 129 = .ok (.ifCond .eq 67, 3) := by decide +kernel
theorem dX10_hitsByLike_132 : decode cX10_hitsByLike 132 = .ok (.iload_n 1, 1) := by decide +kernel
theorem dX10_hitsByLike_133 : decode cX10_hitsByLike 133 = .ok (.iload 7, 2) := by decide +kernel
theorem dX10_hitsByLike_135 : decode cX10_hitsByLike 135 = .ok (.iload_n 3, 1) := by decide +kernel
theorem dX10_hitsByLike_136 : decode cX10_hitsByLike 136 = .ok (.invokestatic 73, 3) := by decide +kernel
theorem dX10_hitsByLike_139 : decode cX10_hitsByLike 139 = .ok (.istore 7, 2) := by decide +kernel
theorem dX10_hitsByLike_141 : decode cX10_hitsByLike 141 = .ok (.iload 7, 2) := by decide +kernel
theorem dX10_hitsByLike_143 : decode cX10_hitsByLike 143 = .ok (.bipush 16, 2) := by decide +kernel
theorem dX10_hitsByLike_145 : decode cX10_hitsByLike 145 = .ok (.if_icmp .eq 19, 3) := by decide +kernel
theorem dX10_hitsByLike_148 : decode cX10_hitsByLike 148 = .ok (.aload_n 0, 1) := by decide +kernel
theorem dX10_hitsByLike_149 : decode cX10_hitsByLike 149 = .ok (.iconst 1, 1) := by decide +kernel
theorem dX10_hitsByLike_150 : decode cX10_hitsByLike 150 = .ok (.iload_n 1, 1) := by decide +kernel
theorem dX10_hitsByLike_151 : decode cX10_hitsByLike 151 = .ok (.isub, 1) := by decide +kernel
theorem dX10_hitsByLike_152 : decode cX10_hitsByLike 152 = .ok (.iload 7, 2) := by decide +kernel
theorem dX10_hitsByLike_154 : decode cX10_hitsByLike 154 = .ok (.invokevirtual 77, 3) := by decide +kernel
theorem dX10_hitsByLike_157 : decode cX10_hitsByLike 157 = .ok (.ifCond .ne 7, 3) := by decide +kernel
theorem dX10_hitsByLike_160 : decode cX10_hitsByLike 160 = .ok (.iconst 1, 1) := by decide +kernel
theorem dX10_hitsByLike_161 : decode cX10_hitsByLike 161 = .ok (.goto 4, 3) := by decide +kernel
theorem dX10_hitsByLike_164 : decode cX10_hitsByLike 164 = .ok (.iconst 0, 1) := by decide +kernel
theorem dX10_hitsByLike_165 : decode cX10_hitsByLike 165 = .ok (.istore 8, 2) := by decide +kernel
theorem dX10_hitsByLike_167 : decode cX10_hitsByLike 167 = .ok (.iload 4, 2) := by decide +kernel
theorem dX10_hitsByLike_169 : decode cX10_hitsByLike 169 = .ok (.ifCond .ne 14, 3) := by decide +kernel
theorem dX10_hitsByLike_172 : decode cX10_hitsByLike 172 = .ok (.iload 8, 2) := by decide +kernel
theorem dX10_hitsByLike_174 : decode cX10_hitsByLike 174 = .ok (.ifCond .eq 13, 3) := by decide +kernel
theorem dX10_hitsByLike_177 : decode cX10_hitsByLike 177 = .ok (.iload 7, 2) := by decide +kernel
theorem dX10_hitsByLike_179 : decode cX10_hitsByLike 179 = .ok (.iload_n 2, 1) := by decide +kernel
theorem dX10_hitsByLike_180 : decode cX10_hitsByLike 180 = .ok (.if_icmp .ne 7, 3) := by decide +kernel
theorem dX10_hitsByLike_183 : decode cX10_hitsByLike 183 = .ok (.iconst 1, 1) := by decide +kernel
theorem dX10_hitsByLike_184 : decode cX10_hitsByLike 184 = .ok (.goto 4, 3) := by decide +kernel
theorem dX10_hitsByLike_187 : decode cX10_hitsByLike 187 = .ok (.iconst 0, 1) := by decide +kernel
theorem dX10_hitsByLike_188 : decode cX10_hitsByLike 188 = .ok (.istore 4, 2) := by decide +kernel
theorem dX10_hitsByLike_190 : decode cX10_hitsByLike 190 = .ok (.iinc 9 1, 3) := by decide +kernel
theorem dX10_hitsByLike_193 : decode cX10_hitsByLike 193 = .ok (.goto (-73), 3) := by decide +kernel
theorem dX10_hitsByLike_196 : decode cX10_hitsByLike 196 = .ok (.iinc 6 1, 3) := by decide +kernel
theorem dX10_hitsByLike_199 : decode cX10_hitsByLike 199 = .ok (.goto (-110), 3) := by decide +kernel
theorem dX10_hitsByLike_202 : decode cX10_hitsByLike 202 = .ok (.aload_n 0, 1) := by decide +kernel
theorem dX10_hitsByLike_203 : decode cX10_hitsByLike 203 = .ok (.iconst 0, 1) := by decide +kernel
theorem dX10_hitsByLike_204 : decode cX10_hitsByLike 204 = .ok (.invokevirtual 97, 3) := by decide +kernel
theorem dX10_hitsByLike_207 : decode cX10_hitsByLike 207 = .ok (.iload 4, 2) := by decide +kernel
theorem dX10_hitsByLike_209 : decode cX10_hitsByLike 209 = .ok (.ireturn, 1) := by decide +kernel
set_option maxRecDepth 20000 in
theorem ggX10_shotsAt_X10_at : GoodIn wsX10_shotsAt wsX10_at := goodIn_r _ [5, 6, 50, 51, 52, 53, 54, 55, 56, 57, 58, 59, 60, 61, 62, 63, 64, 65, 66, 67, 68, 69] (by decide +kernel) (by decide +kernel)
set_option maxRecDepth 20000 in
theorem gX10_shotsAt_X10_at : GoodIn wsX10_shotsAt (wsV RX10 66 RX10 yX10_at wsX10_at) := goodIn_app (goodIn_of _ (by decide +kernel)) ggX10_shotsAt_X10_at
set_option maxRecDepth 20000 in
theorem ggX10_shotsAt_X10_hitsByLike : GoodIn wsX10_shotsAt wsX10_hitsByLike := goodIn_r _ [10, 11, 12, 13, 4, 14, 15, 6, 1, 2, 3, 5, 16, 17, 18, 19, 20, 21, 22, 23, 24, 25, 26, 27, 28, 29, 30, 31, 32, 33, 34, 35, 36, 37, 38, 39, 40, 41, 42, 43, 44, 45, 50, 51, 52, 53, 54, 55, 56, 57, 58, 59, 60, 61, 62, 63, 64, 65, 66, 67, 68, 69] (by decide +kernel) (by decide +kernel)
set_option maxRecDepth 20000 in
theorem gX10_shotsAt_X10_hitsByLike : GoodIn wsX10_shotsAt (wsV RX10 247 RX10 yX10_hitsByLike wsX10_hitsByLike) := goodIn_app (goodIn_of _ (by decide +kernel)) ggX10_shotsAt_X10_hitsByLike
set_option maxRecDepth 20000 in
theorem ggX10_shotsAt_X10_hitsBy : GoodIn wsX10_shotsAt wsX10_hitsBy := goodIn_r _ [49, 16, 17, 18, 4, 19, 1, 2, 3, 5, 6, 20, 21, 22, 23, 24, 25, 26, 27, 28, 29, 30, 31, 32, 33, 11, 12, 13, 14, 15, 34, 35, 36, 37, 38, 39, 40, 41, 42, 43, 44, 45, 50, 51, 52, 53, 54, 55, 56, 57, 58, 59, 60, 61, 62, 63, 64, 65, 66, 67, 68, 69] (by decide +kernel) (by decide +kernel)
set_option maxRecDepth 20000 in
theorem gX10_shotsAt_X10_hitsBy : GoodIn wsX10_shotsAt (wsV RX10 250 RX10 yX10_hitsBy wsX10_hitsBy) := goodIn_app (goodIn_of _ (by decide +kernel)) ggX10_shotsAt_X10_hitsBy
theorem dX10_shotsAt_0 : decode cX10_shotsAt 0 = .ok (.aload_n 0, 1) := by decide +kernel
theorem dX10_shotsAt_1 : decode cX10_shotsAt 1 = .ok (.iconst 0, 1) := by decide +kernel
theorem dX10_shotsAt_2 : decode cX10_shotsAt 2 = .ok (.iload_n 1, 1) := by decide +kernel
theorem dX10_shotsAt_3 : decode cX10_shotsAt 3 = .ok (.invokevirtual 66, 3) := by decide +kernel
theorem dX10_shotsAt_6 : decode cX10_shotsAt 6 = .ok (.iconst 1, 1) := by decide +kernel
theorem dX10_shotsAt_7 : decode cX10_shotsAt 7 = .ok (.if_icmp .ne 7, 3) := by decide +kernel
theorem dX10_shotsAt_10 : decode cX10_shotsAt 10 = .ok (.iconst 0, 1) := by decide +kernel
theorem dX10_shotsAt_11 : decode cX10_shotsAt 11 = .ok (.goto 18, 3) := by decide +kernel
theorem dX10_shotsAt_14 : decode cX10_shotsAt 14 = .ok (.aload_n 0, 1) := by decide +kernel
theorem dX10_shotsAt_15 : decode cX10_shotsAt 15 = .ok (.iconst 1, 1) := by decide +kernel
theorem dX10_shotsAt_16 : decode cX10_shotsAt 16 = .ok (.iload_n 1, 1) := by decide +kernel
theorem dX10_shotsAt_17 : decode cX10_shotsAt 17 = .ok (.invokevirtual 66, 3) := by decide +kernel
theorem dX10_shotsAt_20 : decode cX10_shotsAt 20 = .ok (.iconst 1, 1) := by decide +kernel
theorem dX10_shotsAt_21 : decode cX10_shotsAt 21 = .ok (.if_icmp .ne 7, 3) := by decide +kernel
theorem dX10_shotsAt_24 : decode cX10_shotsAt 24 = .ok (.iconst 1, 1) := by decide +kernel
theorem dX10_shotsAt_25 : decode cX10_shotsAt 25 = .ok (.goto 4, 3) := by decide +kernel
theorem dX10_shotsAt_28 : decode cX10_shotsAt 28 = .ok (.iconst (-1), 1) := by decide +kernel
theorem dX10_shotsAt_29 : decode cX10_shotsAt 29 = .ok (.istore_n 2, 1) := by decide +kernel
theorem dX10_shotsAt_30 : decode cX10_shotsAt 30 = .ok (.iconst 0, 1) := by decide +kernel
theorem dX10_shotsAt_31 : decode cX10_shotsAt 31 = .ok (.istore_n 3, 1) := by decide +kernel
theorem dX10_shotsAt_32 : decode cX10_shotsAt 32 = .ok (.iconst 1, 1) := by decide +kernel
theorem dX10_shotsAt_33 : decode cX10_shotsAt 33 = .ok (.istore 4, 2) := by decide +kernel
theorem dX10_shotsAt_35 : decode cX10_shotsAt 35 = .ok (.iload 4, 2) := by decide +kernel
theorem dX10_shotsAt_37 : decode cX10_shotsAt 37 = .ok (.bipush 6, 2) := by decide +kernel
theorem dX10_shotsAt_39 : decode cX10_shotsAt 39 = .ok (.if_icmp .gt 89, 3) := by decide +kernel
theorem dX10_shotsAt_42 : decode cX10_shotsAt 42 = .ok (.iload_n 2, 1) := by decide +kernel
theorem dX10_shotsAt_43 : decode cX10_shotsAt 43 = .ok (.iconst (-1), 1) := by decide +kernel
theorem dX10_shotsAt_44 : decode cX10_shotsAt 44 = .ok (.if_icmp .eq 84, 3) := by decide +kernel
theorem dX10_shotsAt_47 : decode cX10_shotsAt 47 = .ok (.iload_n 3, 1) := by decide +kernel
theorem dX10_shotsAt_48 : decode cX10_shotsAt 48 = .ok (.aload_n 0, 1) := by decide +kernel
theorem dX10_shotsAt_49 : decode cX10_shotsAt 49 = .ok (.iconst 1, 1) := by decide +kernel
theorem dX10_shotsAt_50 : decode cX10_shotsAt 50 = .ok (.iload_n 2, 1) := by decide +kernel
theorem dX10_shotsAt_51 : decode cX10_shotsAt 51 = .ok (.isub, 1) := by decide +kernel
theorem dX10_shotsAt_52 : decode cX10_shotsAt 52 = .ok (.iload_n 1, 1) := by decide +kernel
theorem dX10_shotsAt_53 : decode cX10_shotsAt 53 = .ok (.iload 4, 2) := by decide +kernel
theorem dX10_shotsAt_55 : decode cX10_shotsAt 55 = .ok (.invokevirtual 247, 3) := by decide +kernel
theorem dX10_shotsAt_58 : decode cX10_shotsAt 58 = .ok (.ifCond .eq 7, 3) := by decide +kernel
theorem dX10_shotsAt_61 : decode cX10_shotsAt 61 = .ok (.iconst 1, 1) := by decide +kernel
theorem dX10_shotsAt_62 : decode cX10_shotsAt 62 = .ok (.goto 4, 3) := by decide +kernel
theorem dX10_shotsAt_65 : decode cX10_shotsAt 65 = .ok (.iconst 0, 1) := by decide +kernel
theorem dX10_shotsAt_66 : decode cX10_shotsAt 66 = .ok (.iadd, 1) := by decide +kernel
theorem dX10_shotsAt_67 : decode cX10_shotsAt 67 = .ok (.istore_n 3, 1) := by decide +kernel
theorem dX10_shotsAt_68 : decode cX10_shotsAt 68 = .ok (.iconst 1, 1) := by decide +kernel
theorem dX10_shotsAt_69 : decode cX10_shotsAt 69 = .ok (.istore 5, 2) := by decide +kernel
theorem dX10_shotsAt_71 : decode cX10_shotsAt 71 = .ok (.iload 5, 2) := by decide +kernel
theorem dX10_shotsAt_73 : decode cX10_shotsAt 73 = .ok (.iload 4, 2) := by decide +kernel
theorem dX10_shotsAt_75 : decode cX10_shotsAt 75 = .ok (.if_icmp .ge 47, 3) := by decide +kernel
theorem dX10_shotsAt_78 : decode cX10_shotsAt 78 = .ok (.iload_n 3, 1) := by decide +kernel
theorem dX10_shotsAt_79 : decode cX10_shotsAt 79 = .ok (.aload_n 0, 1) := by decide +kernel
theorem dX10_shotsAt_80 : decode cX10_shotsAt 80 = .ok (.iconst 1, 1) := by decide +kernel
theorem dX10_shotsAt_81 : decode cX10_shotsAt 81 = .ok (.iload_n 2, 1) := by decide +kernel
theorem dX10_shotsAt_82 : decode cX10_shotsAt 82 = .ok (.isub, 1) := by decide +kernel
theorem dX10_shotsAt_83 : decode cX10_shotsAt 83 = .ok (.iload_n 1, 1) := by decide +kernel
theorem dX10_shotsAt_84 : decode cX10_shotsAt 84 = .ok (.iload 4, 2) := by decide +kernel
theorem dX10_shotsAt_86 : decode cX10_shotsAt 86 = .ok (.iload 5, 2) := by decide +kernel
theorem dX10_shotsAt_88 : decode cX10_shotsAt 88 = .ok (.invokevirtual 250, 3) := by decide +kernel
theorem dX10_shotsAt_91 : decode cX10_shotsAt 91 = .ok (.ifCond .ne 18, 3) := by decide +kernel
theorem dX10_shotsAt_94 : decode cX10_shotsAt 94 = .ok (.aload_n 0, 1) := by decide +kernel
theorem dX10_shotsAt_95 : decode cX10_shotsAt 95 = .ok (.iconst 1, 1) := by decide +kernel
theorem dX10_shotsAt_96 : decode cX10_shotsAt 96 = .ok (.iload_n 2, 1) := by decide +kernel
theorem dX10_shotsAt_97 : decode cX10_shotsAt 97 = .ok (.isub, 1) := by decide +kernel
theorem dX10_shotsAt_98 : decode cX10_shotsAt 98 = .ok (.iload_n 1, 1) := by decide +kernel
theorem dX10_shotsAt_99 : decode cX10_shotsAt 99 = .ok (.iload 5, 2) := by decide +kernel
theorem dX10_shotsAt_101 : decode cX10_shotsAt 101 = .ok (.iload 4, 2) := by decide +kernel
theorem dX10_shotsAt_103 : decode cX10_shotsAt 103 = .ok (.invokevirtual 250, 3) := by decide +kernel
theorem dX10_shotsAt_106 : decode cX10_shotsAt 106 = .ok (.ifCond .eq 7, 3) := by decide +kernel
theorem dX10_shotsAt_109 : decode cX10_shotsAt 109 = .ok (.iconst 2, 1) := by decide +kernel
theorem dX10_shotsAt_110 : decode cX10_shotsAt 110 = .ok (.goto 4, 3) := by decide +kernel
theorem dX10_shotsAt_113 : decode cX10_shotsAt 113 = .ok (.iconst 0, 1) := by decide +kernel
theorem dX10_shotsAt_114 : decode cX10_shotsAt 114 = .ok (.iadd, 1) := by decide +kernel
theorem dX10_shotsAt_115 : decode cX10_shotsAt 115 = .ok (.istore_n 3, 1) := by decide +kernel
theorem dX10_shotsAt_116 : decode cX10_shotsAt 116 = .ok (.iinc 5 1, 3) := by decide +kernel
theorem dX10_shotsAt_119 : decode cX10_shotsAt 119 = .ok (.goto (-48), 3) := by decide +kernel
theorem dX10_shotsAt_122 : decode cX10_shotsAt 122 = .ok (.iinc 4 1, 3) := by decide +kernel
theorem dX10_shotsAt_125 : decode cX10_shotsAt 125 = .ok (.goto (-90), 3) := by decide +kernel
theorem dX10_shotsAt_128 : decode cX10_shotsAt 128 = .ok (.iload_n 3, 1) := by decide +kernel
theorem dX10_shotsAt_129 : decode cX10_shotsAt 129 = .ok (.ireturn, 1) := by decide +kernel
set_option maxRecDepth 20000 in
theorem ggX10_shots_X10_isThere : GoodIn wsX10_shots wsX10_isThere := goodIn_r _ [5, 6, 7, 8, 4, 9, 10, 11, 12, 13, 14, 15, 68, 69, 70, 71, 72, 73, 74, 75, 76, 77, 78, 79, 80, 81, 82, 83, 84, 85, 86, 87] (by decide +kernel) (by decide +kernel)
set_option maxRecDepth 20000 in
theorem gX10_shots_X10_isThere : GoodIn wsX10_shots (wsV RX10 203 RX10 yX10_isThere wsX10_isThere) := goodIn_app (goodIn_of _ (by decide +kernel)) ggX10_shots_X10_isThere
set_option maxRecDepth 20000 in
theorem ggX10_shots_X10_shotsAt : GoodIn wsX10_shots wsX10_shotsAt := goodIn_r _ [19, 20, 21, 22, 4, 23, 24, 25, 26, 27, 28, 29, 30, 31, 32, 33, 34, 35, 36, 37, 38, 39, 40, 41, 42, 43, 44, 45, 46, 47, 48, 49, 50, 51, 52, 53, 54, 55, 56, 57, 58, 59, 60, 61, 62, 63, 64, 65, 66, 67, 68, 69, 70, 71, 72, 73, 74, 75, 76, 77, 78, 79, 80, 81, 82, 83, 84, 85, 86, 87] (by decide +kernel) (by decide +kernel)
set_option maxRecDepth 20000 in
theorem gX10_shots_X10_shotsAt : GoodIn wsX10_shots (wsV RX10 253 RX10 yX10_shotsAt wsX10_shotsAt) := goodIn_app (goodIn_of _ (by decide +kernel)) ggX10_shots_X10_shotsAt
theorem dX10_shots_0 : decode cX10_shots 0 = .ok (.aload_n 0, 1) := by decide +kernel
theorem dX10_shots_1 : decode cX10_shots 1 = .ok (.iconst 0, 1) := by decide +kernel
theorem dX10_shots_2 : decode cX10_shots 2 = .ok (.iload_n 1, 1) := by decide +kernel
theorem dX10_shots_3 : decode cX10_shots 3 = .ok (.invokevirtual 203, 3) := by decide +kernel
theorem dX10_shots_6 : decode cX10_shots 6 = .ok (.ifCond .eq 11, 3) := by decide +kernel
theorem dX10_shots_9 : decode cX10_shots 9 = .ok (.aload_n 0, 1) := by decide +kernel
theorem dX10_shots_10 : decode cX10_shots 10 = .ok (.iload_n 1, 1) := by decide +kernel
theorem dX10_shots_11 : decode cX10_shots 11 = .ok (.invokevirtual 253, 3) := by decide +kernel
theorem dX10_shots_14 : decode cX10_shots 14 = .ok (.goto 4, 3) := by decide +kernel
theorem dX10_shots_17 : decode cX10_shots 17 = .ok (.iconst 0, 1) := by decide +kernel
theorem dX10_shots_18 : decode cX10_shots 18 = .ok (.ireturn, 1) := by decide +kernel
set_option maxRecDepth 20000 in
theorem ggX10_shotsByKinds_X10_isThere : GoodIn wsX10_shotsByKinds wsX10_isThere := goodIn_r _ [5, 6, 7, 8, 4, 9, 10, 11, 12, 13, 14, 15, 68, 69, 70, 71, 72, 73, 74, 75, 76, 77, 78, 79, 80, 81, 82, 83, 84, 85, 86, 87] (by decide +kernel) (by decide +kernel)
set_option maxRecDepth 20000 in
theorem gX10_shotsByKinds_X10_isThere : GoodIn wsX10_shotsByKinds (wsV RX10 203 RX10 yX10_isThere wsX10_isThere) := goodIn_app (goodIn_of _ (by decide +kernel)) ggX10_shotsByKinds_X10_isThere
set_option maxRecDepth 20000 in
theorem ggX10_shotsByKinds_X10_shotsAt : GoodIn wsX10_shotsByKinds wsX10_shotsAt := goodIn_r _ [19, 20, 21, 22, 4, 23, 24, 25, 26, 27, 28, 29, 30, 31, 32, 33, 34, 35, 36, 37, 38, 39, 40, 41, 42, 43, 44, 45, 46, 47, 48, 49, 50, 51, 52, 53, 54, 55, 56, 57, 58, 59, 60, 61, 62, 63, 64, 65, 66, 67, 68, 69, 70, 71, 72, 73, 74, 75, 76, 77, 78, 79, 80, 81, 82, 83, 84, 85, 86, 87] (by decide +kernel) (by decide +kernel)
set_option maxRecDepth 20000 in
theorem gX10_shotsByKinds_X10_shotsAt : GoodIn wsX10_shotsByKinds (wsV RX10 253 RX10 yX10_shotsAt wsX10_shotsAt) := goodIn_app (goodIn_of _ (by decide +kernel)) ggX10_shotsByKinds_X10_shotsAt
theorem dX10_shotsByKinds_0 : decode cX10_shotsByKinds 0 = .ok (.aload_n 0, 1) := by decide +kernel
theorem dX10_shotsByKinds_1 : decode cX10_shotsByKinds 1 = .ok (.iconst 0, 1) := by decide +kernel
theorem dX10_shotsByKinds_2 : decode cX10_shotsByKinds 2 = .ok (.iload_n 1, 1) := by decide +kernel
theorem dX10_shotsByKinds_3 : decode cX10_shotsByKinds 3 = .ok (.invokevirtual 203, 3) := by decide +kernel
theorem dX10_shotsByKinds_6 : decode cX10_shotsByKinds 6 = .ok (.ifCond .eq 11, 3) := by decide +kernel
theorem dX10_shotsByKinds_9 : decode cX10_shotsByKinds 9 = .ok (.aload_n 0, 1) := by decide +kernel
theorem dX10_shotsByKinds_10 : decode cX10_shotsByKinds 10 = .ok (.iload_n 1, 1) := by decide +kernel
theorem dX10_shotsByKinds_11 : decode cX10_shotsByKinds 11 = .ok (.invokevirtual 253, 3) := by decide +kernel
theorem dX10_shotsByKinds_14 : decode cX10_shotsByKinds 14 = .ok (.goto 4, 3) := by decide +kernel
theorem dX10_shotsByKinds_17 : decode cX10_shotsByKinds 17 = .ok (.iconst 0, 1) := by decide +kernel
theorem dX10_shotsByKinds_18 : decode cX10_shotsByKinds 18 = .ok (.ireturn, 1) := by decide +kernel
set_option maxRecDepth 20000 in
theorem ggX10_enters_X10_target : GoodIn wsX10_enters wsX10_target := goodIn_r _ [4] (by decide +kernel) (by decide +kernel)
set_option maxRecDepth 20000 in
theorem gX10_enters_X10_target : GoodIn wsX10_enters (va_wsS RX10 73 yX10_target wsX10_target) := goodIn_app (goodIn_of _ (by decide +kernel)) ggX10_enters_X10_target
set_option maxRecDepth 20000 in
theorem ggX10_enters_X10_isBlock : GoodIn wsX10_enters wsX10_isBlock := goodIn_r _ [8, 9, 10, 11, 3, 12, 13, 14, 15, 16, 17, 18, 19, 20, 21, 22, 23, 24, 25, 26, 27, 28, 29, 30, 31, 32, 33] (by decide +kernel) (by decide +kernel)
set_option maxRecDepth 20000 in
theorem gX10_enters_X10_isBlock : GoodIn wsX10_enters (wsV RX10 77 RX10 yX10_isBlock wsX10_isBlock) := goodIn_app (goodIn_of _ (by decide +kernel)) ggX10_enters_X10_isBlock
theorem dX10_enters_0 : decode cX10_enters 0 = .ok (.iconst 0, 1) := by decide +kernel
theorem dX10_enters_1 : decode cX10_enters 1 = .ok (.istore_n 2, 1) := by decide +kernel
theorem dX10_enters_2 : decode cX10_enters 2 = .ok (.iconst 1, 1) := by decide +kernel
theorem dX10_enters_3 : decode cX10_enters 3 = .ok (.istore_n 3, 1) := by decide +kernel
theorem dX10_enters_4 : decode cX10_enters 4 = .ok (.iload_n 3, 1) := by decide +kernel
theorem dX10_enters_5 : decode cX10_enters 5 = .ok (.bipush 6, 2) := by decide +kernel
theorem dX10_enters_7 : decode cX10_enters 7 = .ok (.if_icmp .gt 33, 3) := by decide +kernel
theorem dX10_enters_10 : decode cX10_enters 10 = .ok (.iload_n 2, 1) := by decide +kernel
theorem dX10_enters_11 : decode cX10_enters 11 = .ok (.aload_n 0, 1) := by decide +kernel
theorem dX10_enters_12 : decode cX10_enters 12 = .ok (.iconst 1, 1) := by decide +kernel
theorem dX10_enters_13 : decode cX10_enters 13 = .ok (.iload_n 1, 1) := by decide +kernel
theorem dX10_enters_14 : decode cX10_enters 14 = .ok (.isub, 1) := by decide +kernel
theorem dX10_enters_15 : decode cX10_enters 15 = .ok (.iload_n 1, 1) := by decide +kernel
theorem dX10_enters_16 : decode cX10_enters 16 = .ok (.iconst (-1), 1) := by decide +kernel
theorem dX10_enters_17 : decode cX10_enters 17 = .ok (.iload_n 3, 1) := by decide +kernel
theorem dX10_enters_18 : decode cX10_enters 18 = .ok (.invokestatic 73, 3) := by decide +kernel
theorem dX10_enters_21 : decode cX10_enters 21 = .ok (.invokevirtual 77, 3) := by decide +kernel
theorem dX10_enters_24 : decode cX10_enters 24 = .ok (.ifCond .eq 7, 3) := by decide +kernel
theorem dX10_enters_27 : decode cX10_enters 27 = .ok (.iconst 1, 1) := by decide +kernel
theorem dX10_enters_28 : decode cX10_enters 28 = .ok (.goto 4, 3) := by decide +kernel
theorem dX10_enters_31 : decode cX10_enters 31 = .ok (.iconst 0, 1) := by decide +kernel
theorem dX10_enters_32 : decode cX10_enters 32 = .ok (.iadd, 1) := by decide +kernel
theorem dX10_enters_33 : decode cX10_enters 33 = .ok (.istore_n 2, 1) := by decide +kernel
theorem dX10_enters_34 : decode cX10_enters 34 = .ok (.iinc 3 1, 3) := by decide +kernel
theorem dX10_enters_37 : decode cX10_enters 37 = .ok (.goto (-33), 3) := by decide +kernel
theorem dX10_enters_40 : decode cX10_enters 40 = .ok (.bipush 36, 2) := by decide +kernel
theorem dX10_enters_42 : decode cX10_enters 42 = .ok (.iload_n 2, 1) := by decide +kernel
theorem dX10_enters_43 : decode cX10_enters 43 = .ok (.iload_n 2, 1) := by decide +kernel
theorem dX10_enters_44 : decode cX10_enters 44 = .ok (.imul, 1) := by decide +kernel
theorem dX10_enters_45 : decode cX10_enters 45 = .ok (.isub, 1) := by decide +kernel
theorem dX10_enters_46 : decode cX10_enters 46 = .ok (.ireturn, 1) := by decide +kernel
set_option maxRecDepth 20000 in
theorem ggX10_entering_X10_isThere : GoodIn wsX10_entering wsX10_isThere := goodIn_r _ [5, 6, 7, 8, 4, 9, 10, 11, 12, 13, 14, 15, 32, 33, 34, 35, 36, 37, 38, 39, 40, 41, 42, 43, 44, 45, 46, 47, 48, 49, 50, 51] (by decide +kernel) (by decide +kernel)
set_option maxRecDepth 20000 in
theorem gX10_entering_X10_isThere : GoodIn wsX10_entering (wsV RX10 203 RX10 yX10_isThere wsX10_isThere) := goodIn_app (goodIn_of _ (by decide +kernel)) ggX10_entering_X10_isThere
set_option maxRecDepth 20000 in
theorem ggX10_entering_X10_enters : GoodIn wsX10_entering wsX10_enters := goodIn_r _ [19, 20, 21, 4, 22, 23, 24, 25, 26, 27, 28, 29, 30, 31, 32, 33, 34, 35, 36, 37, 38, 39, 40, 41, 42, 43, 44, 45, 46, 47, 48, 49, 50, 51] (by decide +kernel) (by decide +kernel)
set_option maxRecDepth 20000 in
theorem gX10_entering_X10_enters : GoodIn wsX10_entering (wsV RX10 256 RX10 yX10_enters wsX10_enters) := goodIn_app (goodIn_of _ (by decide +kernel)) ggX10_entering_X10_enters
theorem dX10_entering_0 : decode cX10_entering 0 = .ok (.aload_n 0, 1) := by decide +kernel
theorem dX10_entering_1 : decode cX10_entering 1 = .ok (.iload_n 1, 1) := by decide +kernel
theorem dX10_entering_2 : decode cX10_entering 2 = .ok (.iconst 0, 1) := by decide +kernel
theorem dX10_entering_3 : decode cX10_entering 3 = .ok (.invokevirtual 203, 3) := by decide +kernel
theorem dX10_entering_6 : decode cX10_entering 6 = .ok (.ifCond .eq 11, 3) := by decide +kernel
theorem dX10_entering_9 : decode cX10_entering 9 = .ok (.aload_n 0, 1) := by decide +kernel
theorem dX10_entering_10 : decode cX10_entering 10 = .ok (.iload_n 1, 1) := by decide +kernel
theorem dX10_entering_11 : decode cX10_entering 11 = .ok (.invokevirtual 256, 3) := by decide +kernel
theorem dX10_entering_14 : decode cX10_entering 14 = .ok (.goto 4, 3) := by decide +kernel
theorem dX10_entering_17 : decode cX10_entering 17 = .ok (.iconst 0, 1) := by decide +kernel
theorem dX10_entering_18 : decode cX10_entering 18 = .ok (.ireturn, 1) := by decide +kernel
set_option maxRecDepth 20000 in
theorem ggX10_blotsBehind_X10_fault : GoodIn wsX10_blotsBehind wsX10_fault := goodIn_r _ [6, 7, 8, 5, 9] (by decide +kernel) (by decide +kernel)
set_option maxRecDepth 20000 in
theorem gX10_blotsBehind_X10_fault : GoodIn wsX10_blotsBehind (va_wsS RX10 134 yX10_fault wsX10_fault) := goodIn_app (goodIn_of _ (by decide +kernel)) ggX10_blotsBehind_X10_fault
set_option maxRecDepth 20000 in
theorem ggX10_blotsBehind_X10_why : GoodIn wsX10_blotsBehind wsX10_why := goodIn_r _ [13, 2, 14, 15, 16, 5, 17, 18, 19, 20, 21, 22, 23, 24, 25, 26, 27, 28, 29, 30, 31, 32, 33, 34, 35, 36, 37, 38, 39, 40, 41, 42, 43, 44, 45, 46, 47, 48, 49, 50, 51, 52, 53, 54, 55, 56, 57, 58, 59, 60, 61, 62, 63, 64, 65, 66, 67, 68, 69, 70, 71, 72, 73, 74, 75, 76, 77, 78, 79, 80, 85, 86, 87, 88, 89, 90, 91, 92, 93, 94, 95, 96, 97, 98, 99, 100, 101, 102, 103, 104] (by decide +kernel) (by decide +kernel)
set_option maxRecDepth 20000 in
theorem gX10_blotsBehind_X10_why : GoodIn wsX10_blotsBehind (wsV RX10 137 RX10 yX10_why wsX10_why) := goodIn_app (goodIn_of _ (by decide +kernel)) ggX10_blotsBehind_X10_why
set_option maxRecDepth 20000 in
theorem ggX10_blotsBehind_X10_lays : GoodIn wsX10_blotsBehind wsX10_lays := goodIn_r _ [59, 60, 2, 85, 86, 87, 88, 89, 90, 91, 92, 93, 94, 95, 96, 97, 98, 99, 100, 101, 102, 103, 104] (by decide +kernel) (by decide +kernel)
set_option maxRecDepth 20000 in
theorem gX10_blotsBehind_X10_lays : GoodIn wsX10_blotsBehind (wsV RX10 88 RX10 yX10_lays wsX10_lays) := goodIn_app (goodIn_of _ (by decide +kernel)) ggX10_blotsBehind_X10_lays
set_option maxRecDepth 20000 in
theorem ggX10_blotsBehind_X10_moves : GoodIn wsX10_blotsBehind wsX10_moves := goodIn_r _ [64, 26, 27, 5, 28, 22, 23, 24, 25, 2, 65, 66, 67, 68, 85, 86, 87, 88, 89, 90, 91, 92, 93, 94, 95, 96, 97, 98, 99, 100, 101, 102, 103, 104] (by decide +kernel) (by decide +kernel)
set_option maxRecDepth 20000 in
theorem gX10_blotsBehind_X10_moves : GoodIn wsX10_blotsBehind (wsV RX10 91 RX10 yX10_moves wsX10_moves) := goodIn_app (goodIn_of _ (by decide +kernel)) ggX10_blotsBehind_X10_moves
set_option maxRecDepth 20000 in
theorem ggX10_blotsBehind_X10_blot : GoodIn wsX10_blotsBehind wsX10_blot := goodIn_r _ [84, 22, 23, 24, 5, 25, 2, 85, 86, 87, 88, 89, 90, 91, 92, 93, 94, 95, 96, 97, 98, 99, 100, 101, 102, 103, 104] (by decide +kernel) (by decide +kernel)
set_option maxRecDepth 20000 in
theorem gX10_blotsBehind_X10_blot : GoodIn wsX10_blotsBehind (wsV RX10 206 RX10 yX10_blot wsX10_blot) := goodIn_app (goodIn_of _ (by decide +kernel)) ggX10_blotsBehind_X10_blot
set_option maxRecDepth 20000 in
theorem ggX10_blotsBehind_X10_takesUp : GoodIn wsX10_blotsBehind wsX10_takesUp := goodIn_r _ [76, 2, 60, 85, 86, 87, 88, 89, 90, 91, 92, 93, 94, 95, 96, 97, 98, 99, 100, 101, 102, 103, 104] (by decide +kernel) (by decide +kernel)
set_option maxRecDepth 20000 in
theorem gX10_blotsBehind_X10_takesUp : GoodIn wsX10_blotsBehind (wsV RX10 97 RX10 yX10_takesUp wsX10_takesUp) := goodIn_app (goodIn_of _ (by decide +kernel)) ggX10_blotsBehind_X10_takesUp
theorem dX10_blotsBehind_0 : decode cX10_blotsBehind 0 = .ok (.aload_n 0, 1) := by decide +kernel
theorem dX10_blotsBehind_1 : decode cX10_blotsBehind 1 = .ok (.iload_n 1, 1) := by decide +kernel
theorem dX10_blotsBehind_2 : decode cX10_blotsBehind 2 = .ok (.iload_n 2, 1) := by decide +kernel
theorem dX10_blotsBehind_3 : decode cX10_blotsBehind 3 = .ok (.invokestatic 134, 3) := by decide +kernel
theorem dX10_blotsBehind_6 : decode cX10_blotsBehind 6 = .ok (.putfield 48, 3) := by decide +kernel
theorem dX10_blotsBehind_9 : decode cX10_blotsBehind 9 = .ok (.aload_n 0, 1) := by decide +kernel
theorem dX10_blotsBehind_10 : decode cX10_blotsBehind 10 = .ok (.getfield 48, 3) := by decide +kernel
theorem dX10_blotsBehind_13 : decode cX10_blotsBehind 13 = .ok (.ifCond .ne 17, 3) := by decide +kernel
theorem dX10_blotsBehind_16 : decode cX10_blotsBehind 16 = .ok (.aload_n 0, 1) := by decide +kernel
theorem dX10_blotsBehind_17 : decode cX10_blotsBehind 17 = .ok (.iload_n 1, 1) := by decide +kernel
theorem dX10_blotsBehind_18 : decode cX10_blotsBehind 18 = .ok (.iload_n 2, 1) := by decide +kernel
theorem dX10_blotsBehind_19 : decode cX10_blotsBehind 19 = .ok (.invokevirtual 137, 3) := by decide +kernel
theorem dX10_blotsBehind_22 : decode cX10_blotsBehind 22 = .ok (.ifCond .eq 8, 3) := by decide +kernel
theorem dX10_blotsBehind_25 : decode cX10_blotsBehind 25 = .ok (.aload_n 0, 1) := by decide +kernel
theorem dX10_blotsBehind_26 : decode cX10_blotsBehind 26 = .ok (.iconst 3, 1) := by decide +kernel
theorem dX10_blotsBehind_27 : decode cX10_blotsBehind 27 = .ok (.putfield 48, 3) := by decide +kernel
theorem dX10_blotsBehind_30 : decode cX10_blotsBehind 30 = .ok (.aload_n 0, 1) := by decide +kernel
theorem dX10_blotsBehind_31 : decode cX10_blotsBehind 31 = .ok (.getfield 48, 3) := by decide +kernel
theorem dX10_blotsBehind_34 : decode cX10_blotsBehind 34 = .ok (.ifCond .le 5, 3) := by decide +kernel
theorem dX10_blotsBehind_37 : decode cX10_blotsBehind 37 = .ok (.iconst 0, 1) := by decide +kernel
theorem dX10_blotsBehind_38 : decode cX10_blotsBehind 38 = .ok (.ireturn, 1) := by decide +kernel
theorem dX10_blotsBehind_39 : decode cX10_blotsBehind 39 = .ok (.aload_n 0, 1) := by decide +kernel
theorem dX10_blotsBehind_40 : decode cX10_blotsBehind 40 = .ok (.iconst 0, 1) := by decide +kernel
theorem dX10_blotsBehind_41 : decode cX10_blotsBehind 41 = .ok (.invokevirtual 88, 3) := by decide +kernel
theorem dX10_blotsBehind_44 : decode cX10_blotsBehind 44 = .ok (.aload_n 0, 1) := by decide +kernel
theorem dX10_blotsBehind_45 : decode cX10_blotsBehind 45 = .ok (.aload_n 0, 1) := by decide +kernel
theorem dX10_blotsBehind_46 : decode cX10_blotsBehind 46 = .ok (.getfield 7, 3) := by decide +kernel
theorem dX10_blotsBehind_49 : decode cX10_blotsBehind 49 = .ok (.bipush 36, 2) := by decide +kernel
theorem dX10_blotsBehind_51 : decode cX10_blotsBehind 51 = .ok (.iaload, 1) := by decide +kernel
theorem dX10_blotsBehind_52 : decode cX10_blotsBehind 52 = .ok (.iload_n 1, 1) := by decide +kernel
theorem dX10_blotsBehind_53 : decode cX10_blotsBehind 53 = .ok (.iload_n 2, 1) := by decide +kernel
theorem dX10_blotsBehind_54 : decode cX10_blotsBehind 54 = .ok (.invokevirtual 91, 3) := by decide +kernel
theorem dX10_blotsBehind_57 : decode cX10_blotsBehind 57 = .ok (.istore_n 3, 1) := by decide +kernel
theorem dX10_blotsBehind_58 : decode cX10_blotsBehind 58 = .ok (.aload_n 0, 1) := by decide +kernel
theorem dX10_blotsBehind_59 : decode cX10_blotsBehind 59 = .ok (.aload_n 0, 1) := by decide +kernel
theorem dX10_blotsBehind_60 : decode cX10_blotsBehind 60 = .ok (.getfield 7, 3) := by decide +kernel
theorem dX10_blotsBehind_63 : decode cX10_blotsBehind 63 = .ok (.bipush 36, 2) := by decide +kernel
theorem dX10_blotsBehind_65 : decode cX10_blotsBehind 65 = .ok (.iaload, 1) := by decide +kernel
theorem dX10_blotsBehind_66 : decode cX10_blotsBehind 66 = .ok (.invokevirtual 206, 3) := by decide +kernel
theorem dX10_blotsBehind_69 : decode cX10_blotsBehind 69 = .ok (.istore 4, 2) := by decide +kernel
theorem dX10_blotsBehind_71 : decode cX10_blotsBehind 71 = .ok (.aload_n 0, 1) := by decide +kernel
theorem dX10_blotsBehind_72 : decode cX10_blotsBehind 72 = .ok (.iconst 0, 1) := by decide +kernel
theorem dX10_blotsBehind_73 : decode cX10_blotsBehind 73 = .ok (.invokevirtual 97, 3) := by decide +kernel
theorem dX10_blotsBehind_76 : decode cX10_blotsBehind 76 = .ok (.iload 4, 2) := by decide +kernel
theorem dX10_blotsBehind_78 : decode cX10_blotsBehind 78 = .ok (.ireturn, 1) := by decide +kernel
set_option maxRecDepth 20000 in
theorem ggX10_leading_X10_pip : GoodIn wsX10_leading wsX10_pip := goodIn_r _ [7, 8, 9, 10, 6, 11, 1, 12, 13, 14, 15, 16, 17, 18, 19, 20, 21, 22, 23, 24, 25, 26, 27, 28, 29, 30, 31, 32, 33, 34] (by decide +kernel) (by decide +kernel)
set_option maxRecDepth 20000 in
theorem gX10_leading_X10_pip : GoodIn wsX10_leading (wsV RX10 155 RX10 yX10_pip wsX10_pip) := goodIn_app (goodIn_of _ (by decide +kernel)) ggX10_leading_X10_pip
theorem dX10_leading_0 : decode cX10_leading 0 = .ok (.aload_n 0, 1) := by decide +kernel
theorem dX10_leading_1 : decode cX10_leading 1 = .ok (.iconst 1, 1) := by decide +kernel
theorem dX10_leading_2 : decode cX10_leading 2 = .ok (.aload_n 0, 1) := by decide +kernel
theorem dX10_leading_3 : decode cX10_leading 3 = .ok (.getfield 7, 3) := by decide +kernel
theorem dX10_leading_6 : decode cX10_leading 6 = .ok (.bipush 36, 2) := by decide +kernel
theorem dX10_leading_8 : decode cX10_leading 8 = .ok (.iaload, 1) := by decide +kernel
theorem dX10_leading_9 : decode cX10_leading 9 = .ok (.isub, 1) := by decide +kernel
theorem dX10_leading_10 : decode cX10_leading 10 = .ok (.invokevirtual 155, 3) := by decide +kernel
theorem dX10_leading_13 : decode cX10_leading 13 = .ok (.istore_n 1, 1) := by decide +kernel
theorem dX10_leading_14 : decode cX10_leading 14 = .ok (.iload_n 1, 1) := by decide +kernel
theorem dX10_leading_15 : decode cX10_leading 15 = .ok (.aload_n 0, 1) := by decide +kernel
theorem dX10_leading_16 : decode cX10_leading 16 = .ok (.aload_n 0, 1) := by decide +kernel
theorem dX10_leading_17 : decode cX10_leading 17 = .ok (.getfield 7, 3) := by decide +kernel
theorem dX10_leading_20 : decode cX10_leading 20 = .ok (.bipush 36, 2) := by decide +kernel
theorem dX10_leading_22 : decode cX10_leading 22 = .ok (.iaload, 1) := by decide +kernel
theorem dX10_leading_23 : decode cX10_leading 23 = .ok (.invokevirtual 155, 3) := by decide +kernel
theorem dX10_leading_26 : decode cX10_leading 26 = .ok (.iadd, 1) := by decide +kernel
theorem dX10_leading_27 : decode cX10_leading 27 = .ok (.istore_n 2, 1) := by decide +kernel
theorem dX10_leading_28 : decode cX10_leading 28 = .ok (.iload_n 2, 1) := by decide +kernel
theorem dX10_leading_29 : decode cX10_leading 29 = .ok (.ifCond .ne 9, 3) := by decide +kernel
theorem dX10_leading_32 : decode cX10_leading 32 = .ok (.ldc2_w 259, 3) := by decide +kernel
theorem dX10_leading_35 : decode cX10_leading 35 = .ok (.goto 8, 3) := by decide +kernel
theorem dX10_leading_38 : decode cX10_leading 38 = .ok (.iload_n 1, 1) := by decide +kernel
theorem dX10_leading_39 : decode cX10_leading 39 = .ok (.i2d, 1) := by decide +kernel
theorem dX10_leading_40 : decode cX10_leading 40 = .ok (.iload_n 2, 1) := by decide +kernel
theorem dX10_leading_41 : decode cX10_leading 41 = .ok (.i2d, 1) := by decide +kernel
theorem dX10_leading_42 : decode cX10_leading 42 = .ok (.ddiv, 1) := by decide +kernel
theorem dX10_leading_43 : decode cX10_leading 43 = .ok (.dreturn, 1) := by decide +kernel
set_option maxRecDepth 20000 in
theorem ggX10_lead_X10_leading : GoodIn wsX10_lead wsX10_leading := goodIn_r _ [6, 7, 8, 9, 10, 11, 5, 12, 13, 14, 15, 16, 17, 18, 19, 20, 21, 22, 23, 24, 25, 26, 27, 28, 29, 30, 31, 32, 33, 34, 35, 36, 37, 38, 39] (by decide +kernel) (by decide +kernel)
set_option maxRecDepth 20000 in
theorem gX10_lead_X10_leading : GoodIn wsX10_lead (wsV RX10 261 RX10 yX10_leading wsX10_leading) := goodIn_app (goodIn_of _ (by decide +kernel)) ggX10_lead_X10_leading
theorem dX10_lead_0 : decode cX10_lead 0 = .ok (.aload_n 0, 1) := by decide +kernel
theorem dX10_lead_1 : decode cX10_lead 1 = .ok (.iconst 0, 1) := by decide +kernel
theorem dX10_lead_2 : decode cX10_lead 2 = .ok (.putfield 48, 3) := by decide +kernel
theorem dX10_lead_5 : decode cX10_lead 5 = .ok (.aload_n 0, 1) := by decide +kernel
theorem dX10_lead_6 : decode cX10_lead 6 = .ok (.invokevirtual 261, 3) := by decide +kernel
theorem dX10_lead_9 : decode cX10_lead 9 = .ok (.dreturn, 1) := by decide +kernel
theorem dX10_bitsOf_0 : decode cX10_bitsOf 0 = .ok (.dload_n 0, 1) := by decide +kernel
theorem dX10_bitsOf_1 : decode cX10_bitsOf 1 = .ok (.dconst 0, 1) := by decide +kernel
theorem dX10_bitsOf_2 : decode cX10_bitsOf 2 = .ok (.dcmp .l, 1) := by decide +kernel
theorem dX10_bitsOf_3 : decode cX10_bitsOf 3 = .ok (.ifCond .ne 5, 3) := by decide +kernel
theorem dX10_bitsOf_6 : decode cX10_bitsOf 6 = .ok (.lconst 0, 1) := by decide +kernel
theorem dX10_bitsOf_7 : decode cX10_bitsOf 7 = .ok (.lreturn, 1) := by decide +kernel
theorem dX10_bitsOf_8 : decode cX10_bitsOf 8 = .ok (.dload_n 0, 1) := by decide +kernel
theorem dX10_bitsOf_9 : decode cX10_bitsOf 9 = .ok (.dstore 4, 2) := by decide +kernel
theorem dX10_bitsOf_11 : decode cX10_bitsOf 11 = .ok (.iload_n 3, 1) := by decide +kernel
theorem dX10_bitsOf_12 : decode cX10_bitsOf 12 = .ok (.istore 6, 2) := by decide +kernel
theorem dX10_bitsOf_14 : decode cX10_bitsOf 14 = .ok (.dload 4, 2) := by decide +kernel
theorem dX10_bitsOf_16 : decode cX10_bitsOf 16 = .ok (.ldc2_w 265, 3) := by decide +kernel
theorem dX10_bitsOf_19 : decode cX10_bitsOf 19 = .ok (.dcmp .l, 1) := by decide +kernel
theorem dX10_bitsOf_20 : decode cX10_bitsOf 20 = .ok (.ifCond .lt 17, 3) := by decide +kernel
theorem dX10_bitsOf_23 : decode cX10_bitsOf 23 = .ok (.dload 4, 2) := by decide +kernel
theorem dX10_bitsOf_25 : decode cX10_bitsOf 25 = .ok (.ldc2_w 265, 3) := by decide +kernel
theorem dX10_bitsOf_28 : decode cX10_bitsOf 28 = .ok (.ddiv, 1) := by decide +kernel
theorem dX10_bitsOf_29 : decode cX10_bitsOf 29 = .ok (.dstore 4, 2) := by decide +kernel
theorem dX10_bitsOf_31 : decode cX10_bitsOf 31 = .ok (.iinc 6 1, 3) := by decide +kernel
theorem dX10_bitsOf_34 : decode cX10_bitsOf 34 = .ok (.goto (-20), 3) := by decide +kernel
theorem dX10_bitsOf_37 : decode cX10_bitsOf 37 = .ok (.dload 4, 2) := by decide +kernel
theorem dX10_bitsOf_39 : decode cX10_bitsOf 39 = .ok (.dconst 1, 1) := by decide +kernel
theorem dX10_bitsOf_40 : decode cX10_bitsOf 40 = .ok (.dcmp .g, 1) := by decide +kernel
theorem dX10_bitsOf_41 : decode cX10_bitsOf 41 = .ok (.ifCond .ge 17, 3) := by decide +kernel
theorem dX10_bitsOf_44 : decode cX10_bitsOf 44 = .ok (.dload 4, 2) := by decide +kernel
theorem dX10_bitsOf_46 : decode cX10_bitsOf 46 = .ok (.ldc2_w 265, 3) := by decide +kernel
theorem dX10_bitsOf_49 : decode cX10_bitsOf 49 = .ok (.dmul, 1) := by decide +kernel
theorem dX10_bitsOf_50 : decode cX10_bitsOf 50 = .ok (.dstore 4, 2) := by decide +kernel
theorem dX10_bitsOf_52 : decode cX10_bitsOf 52 = .ok (.iinc 6 (-1), 3) := by decide +kernel
theorem dX10_bitsOf_55 : decode cX10_bitsOf 55 = .ok (.goto (-18), 3) := by decide +kernel
theorem dX10_bitsOf_58 : decode cX10_bitsOf 58 = .ok (.dload 4, 2) := by decide +kernel
theorem dX10_bitsOf_60 : decode cX10_bitsOf 60 = .ok (.dconst 1, 1) := by decide +kernel
theorem dX10_bitsOf_61 : decode cX10_bitsOf 61 = .ok (.dsub, 1) := by decide +kernel
theorem dX10_bitsOf_62 : decode cX10_bitsOf 62 = .ok (.dstore 7, 2) := by decide +kernel
theorem dX10_bitsOf_64 : decode cX10_bitsOf 64 = .ok (.iload 6, 2) := by decide +kernel
theorem dX10_bitsOf_66 : decode cX10_bitsOf 66 = .ok (.i2l, 1) := by decide +kernel
theorem dX10_bitsOf_67 : decode cX10_bitsOf 67 = .ok (.lstore 9, 2) := by decide +kernel
theorem dX10_bitsOf_69 : decode cX10_bitsOf 69 = .ok (.iconst 0, 1) := by decide +kernel
theorem dX10_bitsOf_70 : decode cX10_bitsOf 70 = .ok (.istore 11, 2) := by decide +kernel
theorem dX10_bitsOf_72 : decode cX10_bitsOf 72 = .ok (.iload 11, 2) := by decide +kernel
theorem dX10_bitsOf_74 : decode cX10_bitsOf 74 = .ok (.iload_n 2, 1) := by decide +kernel
theorem dX10_bitsOf_75 : decode cX10_bitsOf 75 = .ok (.if_icmp .ge 50, 3) := by decide +kernel
theorem dX10_bitsOf_78 : decode cX10_bitsOf 78 = .ok (.dload 7, 2) := by decide +kernel
theorem dX10_bitsOf_80 : decode cX10_bitsOf 80 = .ok (.ldc2_w 265, 3) := by decide +kernel
theorem dX10_bitsOf_83 : decode cX10_bitsOf 83 = .ok (.dmul, 1) := by decide +kernel
theorem dX10_bitsOf_84 : decode cX10_bitsOf 84 = .ok (.dstore 7, 2) := by decide +kernel
theorem dX10_bitsOf_86 : decode cX10_bitsOf 86 = .ok (.dload 7, 2) := by decide +kernel
theorem dX10_bitsOf_88 : decode cX10_bitsOf 88 = .ok (.dconst 1, 1) := by decide +kernel
theorem dX10_bitsOf_89 : decode cX10_bitsOf 89 = .ok (.dcmp .l, 1) := by decide +kernel
theorem dX10_bitsOf_90 : decode cX10_bitsOf 90 = .ok (.ifCond .lt 7, 3) := by decide +kernel
theorem dX10_bitsOf_93 : decode cX10_bitsOf 93 = .ok (.lconst 1, 1) := by decide +kernel
theorem dX10_bitsOf_94 : decode cX10_bitsOf 94 = .ok (.goto 4, 3) := by decide +kernel
theorem dX10_bitsOf_97 : decode cX10_bitsOf 97 = .ok (.lconst 0, 1) := by decide +kernel
theorem dX10_bitsOf_98 : decode cX10_bitsOf 98 = .ok (.lstore 12, 2) := by decide +kernel
theorem dX10_bitsOf_100 : decode cX10_bitsOf 100 = .ok (.dload 7, 2) := by decide +kernel
theorem dX10_bitsOf_102 : decode cX10_bitsOf 102 = .ok (.lload 12, 2) := by decide +kernel
theorem dX10_bitsOf_104 : decode cX10_bitsOf 104 = .ok (.l2d, 1) := by decide +kernel
theorem dX10_bitsOf_105 : decode cX10_bitsOf 105 = .ok (.dsub, 1) := by decide +kernel
theorem dX10_bitsOf_106 : decode cX10_bitsOf 106 = .ok (.dstore 7, 2) := by decide +kernel
theorem dX10_bitsOf_108 : decode cX10_bitsOf 108 = .ok (.ldc2_w 267, 3) := by decide +kernel
theorem dX10_bitsOf_111 : decode cX10_bitsOf 111 = .ok (.lload 9, 2) := by decide +kernel
theorem dX10_bitsOf_113 : decode cX10_bitsOf 113 = .ok (.lmul, 1) := by decide +kernel
theorem dX10_bitsOf_114 : decode cX10_bitsOf 114 = .ok (.lload 12, 2) := by decide +kernel
theorem dX10_bitsOf_116 : decode cX10_bitsOf 116 = .ok (.ladd, 1) := by decide +kernel
theorem dX10_bitsOf_117 : decode cX10_bitsOf 117 = .ok (.lstore 9, 2) := by decide +kernel
theorem dX10_bitsOf_119 : decode cX10_bitsOf 119 = .ok (.iinc 11 1, 3) := by decide +kernel
theorem dX10_bitsOf_122 : decode cX10_bitsOf 122 = .ok (.goto (-50), 3) := by decide +kernel
theorem dX10_bitsOf_125 : decode cX10_bitsOf 125 = .ok (.lload 9, 2) := by decide +kernel
theorem dX10_bitsOf_127 : decode cX10_bitsOf 127 = .ok (.lreturn, 1) := by decide +kernel
theorem dX10_mix_0 : decode cX10_mix 0 = .ok (.aload_n 0, 1) := by decide +kernel
theorem dX10_mix_1 : decode cX10_mix 1 = .ok (.ldc2_w 269, 3) := by decide +kernel
theorem dX10_mix_4 : decode cX10_mix 4 = .ok (.aload_n 0, 1) := by decide +kernel
theorem dX10_mix_5 : decode cX10_mix 5 = .ok (.getfield 271, 3) := by decide +kernel
theorem dX10_mix_8 : decode cX10_mix 8 = .ok (.lmul, 1) := by decide +kernel
theorem dX10_mix_9 : decode cX10_mix 9 = .ok (.lload_n 1, 1) := by decide +kernel
theorem dX10_mix_10 : decode cX10_mix 10 = .ok (.ladd, 1) := by decide +kernel
theorem dX10_mix_11 : decode cX10_mix 11 = .ok (.putfield 271, 3) := by decide +kernel
theorem dX10_mix_14 : decode cX10_mix 14 = .ok (.return_, 1) := by decide +kernel
set_option maxRecDepth 20000 in
theorem ggX10_digest_X10_mix : GoodIn wsX10_digest wsX10_mix := goodIn_r _ [12, 13, 3, 171, 172, 173, 174, 175, 176, 177, 178, 179, 180, 181, 182, 183, 184, 185, 186, 187, 188, 189, 190] (by decide +kernel) (by decide +kernel)
set_option maxRecDepth 20000 in
theorem gX10_digest_X10_mix : GoodIn wsX10_digest (wsV RX10 277 RX10 yX10_mix wsX10_mix) := goodIn_app (goodIn_of _ (by decide +kernel)) ggX10_digest_X10_mix
set_option maxRecDepth 20000 in
theorem ggX10_digest_X10_possible : GoodIn wsX10_digest wsX10_possible := goodIn_r _ [17, 18, 19, 20, 11, 21, 4, 22, 23, 24, 25, 26, 27, 28, 29, 30, 31, 32, 33, 34, 35, 36, 37, 38, 39, 40, 41, 42, 43, 44, 45, 46, 47, 48, 49, 50, 51, 52, 53, 54, 55, 56, 57, 58, 59, 60, 61, 62, 63, 64, 65, 66, 67, 68, 69, 70, 71, 72, 73, 74, 75, 76, 77, 78, 79, 80, 81, 82, 83, 84, 85, 86, 87, 88, 171, 172, 173, 174, 175, 176, 177, 178, 179, 180, 181, 182, 183, 184, 185, 186, 187, 188, 189, 190] (by decide +kernel) (by decide +kernel)
set_option maxRecDepth 20000 in
theorem gX10_digest_X10_possible : GoodIn wsX10_digest (wsV RX10 212 RX10 yX10_possible wsX10_possible) := goodIn_app (goodIn_of _ (by decide +kernel)) ggX10_digest_X10_possible
set_option maxRecDepth 20000 in
theorem ggX10_digest_X10_reaches : GoodIn wsX10_digest wsX10_reaches := goodIn_r _ [51, 4, 52, 53, 54, 11, 55, 56, 57, 58, 59, 26, 27, 28, 29, 30, 31, 32, 33, 34, 35, 36, 37, 38, 39, 40, 41, 42, 43, 44, 45, 46, 47, 60, 61, 62, 63, 64, 65, 66, 67, 68, 69, 70, 71, 72, 73, 74, 75, 76, 77, 78, 79, 80, 81, 82, 83, 84, 171, 172, 173, 174, 175, 176, 177, 178, 179, 180, 181, 182, 183, 184, 185, 186, 187, 188, 189, 190] (by decide +kernel) (by decide +kernel)
set_option maxRecDepth 20000 in
theorem gX10_digest_X10_reaches : GoodIn wsX10_digest (wsV RX10 115 RX10 yX10_reaches wsX10_reaches) := goodIn_app (goodIn_of _ (by decide +kernel)) ggX10_digest_X10_reaches
set_option maxRecDepth 20000 in
theorem ggX10_digest_X10_allPlays : GoodIn wsX10_digest wsX10_allPlays := goodIn_r _ [92, 93, 4, 48, 49, 50, 11, 51, 52, 53, 54, 55, 56, 57, 58, 59, 26, 27, 28, 29, 30, 31, 32, 33, 34, 35, 36, 37, 38, 39, 40, 41, 42, 43, 44, 45, 46, 47, 60, 61, 62, 63, 64, 65, 66, 67, 68, 69, 70, 71, 72, 73, 74, 75, 76, 77, 78, 79, 80, 81, 82, 83, 84, 94, 95, 96, 97, 98, 99, 100, 101, 102, 103, 104, 105, 106, 107, 108, 109, 110, 111, 112, 113, 114, 115, 116, 117, 118, 119, 120, 121, 122, 123, 171, 172, 173, 174, 175, 176, 177, 178, 179, 180, 181, 182, 183, 184, 185, 186, 187, 188, 189, 190] (by decide +kernel) (by decide +kernel)
set_option maxRecDepth 20000 in
theorem gX10_digest_X10_allPlays : GoodIn wsX10_digest (wsV RX10 241 RX10 yX10_allPlays wsX10_allPlays) := goodIn_app (goodIn_of _ (by decide +kernel)) ggX10_digest_X10_allPlays
set_option maxRecDepth 20000 in
theorem ggX10_digest_X10_wouldPlay : GoodIn wsX10_digest wsX10_wouldPlay := goodIn_r _ [127, 128, 4, 129, 130, 131, 11, 132, 89, 90, 91, 92, 93, 48, 49, 50, 51, 52, 53, 54, 55, 56, 57, 58, 59, 26, 27, 28, 29, 30, 31, 32, 33, 34, 35, 36, 37, 38, 39, 40, 41, 42, 43, 44, 45, 46, 47, 60, 61, 62, 63, 64, 65, 66, 67, 68, 69, 70, 71, 72, 73, 74, 75, 76, 77, 78, 79, 80, 81, 82, 83, 84, 94, 95, 96, 97, 98, 99, 100, 101, 102, 103, 104, 105, 106, 107, 108, 109, 110, 111, 112, 113, 114, 115, 116, 117, 118, 119, 120, 121, 122, 123, 171, 172, 173, 174, 175, 176, 177, 178, 179, 180, 181, 182, 183, 184, 185, 186, 187, 188, 189, 190] (by decide +kernel) (by decide +kernel)
set_option maxRecDepth 20000 in
theorem gX10_digest_X10_wouldPlay : GoodIn wsX10_digest (wsV RX10 244 RX10 yX10_wouldPlay wsX10_wouldPlay) := goodIn_app (goodIn_of _ (by decide +kernel)) ggX10_digest_X10_wouldPlay
set_option maxRecDepth 20000 in
theorem ggX10_digest_X10_at : GoodIn wsX10_digest wsX10_at := goodIn_r _ [33, 4, 171, 172, 173, 174, 175, 176, 177, 178, 179, 180, 181, 182, 183, 184, 185, 186, 187, 188, 189, 190] (by decide +kernel) (by decide +kernel)
set_option maxRecDepth 20000 in
theorem gX10_digest_X10_at : GoodIn wsX10_digest (wsV RX10 66 RX10 yX10_at wsX10_at) := goodIn_app (goodIn_of _ (by decide +kernel)) ggX10_digest_X10_at
set_option maxRecDepth 20000 in
theorem ggX10_digest_X10_pip : GoodIn wsX10_digest wsX10_pip := goodIn_r _ [136, 30, 31, 32, 11, 33, 4, 45, 46, 47, 171, 172, 173, 174, 175, 176, 177, 178, 179, 180, 181, 182, 183, 184, 185, 186, 187, 188, 189, 190] (by decide +kernel) (by decide +kernel)
set_option maxRecDepth 20000 in
theorem gX10_digest_X10_pip : GoodIn wsX10_digest (wsV RX10 155 RX10 yX10_pip wsX10_pip) := goodIn_app (goodIn_of _ (by decide +kernel)) ggX10_digest_X10_pip
set_option maxRecDepth 20000 in
theorem ggX10_digest_X10_blot : GoodIn wsX10_digest wsX10_blot := goodIn_r _ [140, 30, 31, 32, 11, 33, 4, 171, 172, 173, 174, 175, 176, 177, 178, 179, 180, 181, 182, 183, 184, 185, 186, 187, 188, 189, 190] (by decide +kernel) (by decide +kernel)
set_option maxRecDepth 20000 in
theorem gX10_digest_X10_blot : GoodIn wsX10_digest (wsV RX10 206 RX10 yX10_blot wsX10_blot) := goodIn_app (goodIn_of _ (by decide +kernel)) ggX10_digest_X10_blot
set_option maxRecDepth 20000 in
theorem ggX10_digest_X10_wall : GoodIn wsX10_digest wsX10_wall := goodIn_r _ [144, 37, 38, 39, 11, 40, 30, 31, 32, 33, 4, 171, 172, 173, 174, 175, 176, 177, 178, 179, 180, 181, 182, 183, 184, 185, 186, 187, 188, 189, 190] (by decide +kernel) (by decide +kernel)
set_option maxRecDepth 20000 in
theorem gX10_digest_X10_wall : GoodIn wsX10_digest (wsV RX10 209 RX10 yX10_wall wsX10_wall) := goodIn_app (goodIn_of _ (by decide +kernel)) ggX10_digest_X10_wall
set_option maxRecDepth 20000 in
theorem ggX10_digest_X10_enters : GoodIn wsX10_digest wsX10_enters := goodIn_r _ [148, 34, 35, 11, 36, 37, 38, 39, 40, 30, 31, 32, 33, 4, 171, 172, 173, 174, 175, 176, 177, 178, 179, 180, 181, 182, 183, 184, 185, 186, 187, 188, 189, 190] (by decide +kernel) (by decide +kernel)
set_option maxRecDepth 20000 in
theorem gX10_digest_X10_enters : GoodIn wsX10_digest (wsV RX10 256 RX10 yX10_enters wsX10_enters) := goodIn_app (goodIn_of _ (by decide +kernel)) ggX10_digest_X10_enters
set_option maxRecDepth 20000 in
theorem ggX10_digest_X10_shotsAt : GoodIn wsX10_digest wsX10_shotsAt := goodIn_r _ [152, 30, 31, 32, 11, 33, 4, 153, 154, 155, 156, 64, 65, 66, 67, 68, 26, 27, 28, 29, 34, 35, 36, 37, 38, 39, 40, 41, 42, 43, 44, 45, 46, 47, 69, 70, 71, 72, 73, 74, 75, 76, 81, 82, 83, 84, 157, 158, 159, 160, 171, 172, 173, 174, 175, 176, 177, 178, 179, 180, 181, 182, 183, 184, 185, 186, 187, 188, 189, 190] (by decide +kernel) (by decide +kernel)
set_option maxRecDepth 20000 in
theorem gX10_digest_X10_shotsAt : GoodIn wsX10_digest (wsV RX10 253 RX10 yX10_shotsAt wsX10_shotsAt) := goodIn_app (goodIn_of _ (by decide +kernel)) ggX10_digest_X10_shotsAt
set_option maxRecDepth 20000 in
theorem ggX10_digest_X10_leading : GoodIn wsX10_digest wsX10_leading := goodIn_r _ [164, 4, 165, 133, 134, 135, 11, 136, 30, 31, 32, 33, 45, 46, 47, 171, 172, 173, 174, 175, 176, 177, 178, 179, 180, 181, 182, 183, 184, 185, 186, 187, 188, 189, 190] (by decide +kernel) (by decide +kernel)
set_option maxRecDepth 20000 in
theorem gX10_digest_X10_leading : GoodIn wsX10_digest (wsV RX10 261 RX10 yX10_leading wsX10_leading) := goodIn_app (goodIn_of _ (by decide +kernel)) ggX10_digest_X10_leading
set_option maxRecDepth 20000 in
theorem ggX10_digest_X10_bitsOf : GoodIn wsX10_digest wsX10_bitsOf := goodIn_r _ [168, 169, 170] (by decide +kernel) (by decide +kernel)
set_option maxRecDepth 20000 in
theorem gX10_digest_X10_bitsOf : GoodIn wsX10_digest (va_wsS RX10 281 yX10_bitsOf wsX10_bitsOf) := goodIn_app (goodIn_of _ (by decide +kernel)) ggX10_digest_X10_bitsOf
theorem dX10_digest_0 : decode cX10_digest 0 = .ok (.aload_n 0, 1) := by decide +kernel
theorem dX10_digest_1 : decode cX10_digest 1 = .ok (.iconst 0, 1) := by decide +kernel
theorem dX10_digest_2 : decode cX10_digest 2 = .ok (.putfield 48, 3) := by decide +kernel
theorem dX10_digest_5 : decode cX10_digest 5 = .ok (.aload_n 0, 1) := by decide +kernel
theorem dX10_digest_6 : decode cX10_digest 6 = .ok (.ldc2_w 275, 3) := by decide +kernel
theorem dX10_digest_9 : decode cX10_digest 9 = .ok (.putfield 271, 3) := by decide +kernel
theorem dX10_digest_12 : decode cX10_digest 12 = .ok (.aload_n 0, 1) := by decide +kernel
theorem dX10_digest_13 : decode cX10_digest 13 = .ok (.aload_n 0, 1) := by decide +kernel
theorem dX10_digest_14 : decode cX10_digest 14 = .ok (.getfield 7, 3) := by decide +kernel
theorem dX10_digest_17 : decode cX10_digest 17 = .ok (.bipush 36, 2) := by decide +kernel
theorem dX10_digest_19 : decode cX10_digest 19 = .ok (.iaload, 1) := by decide +kernel
theorem dX10_digest_20 : decode cX10_digest 20 = .ok (.i2l, 1) := by decide +kernel
theorem dX10_digest_21 : decode cX10_digest 21 = .ok (.invokevirtual 277, 3) := by decide +kernel
theorem dX10_digest_24 : decode cX10_digest 24 = .ok (.aload_n 0, 1) := by decide +kernel
theorem dX10_digest_25 : decode cX10_digest 25 = .ok (.aload_n 0, 1) := by decide +kernel
theorem dX10_digest_26 : decode cX10_digest 26 = .ok (.getfield 7, 3) := by decide +kernel
theorem dX10_digest_29 : decode cX10_digest 29 = .ok (.bipush 37, 2) := by decide +kernel
theorem dX10_digest_31 : decode cX10_digest 31 = .ok (.iaload, 1) := by decide +kernel
theorem dX10_digest_32 : decode cX10_digest 32 = .ok (.i2l, 1) := by decide +kernel
theorem dX10_digest_33 : decode cX10_digest 33 = .ok (.invokevirtual 277, 3) := by decide +kernel
theorem dX10_digest_36 : decode cX10_digest 36 = .ok (.aload_n 0, 1) := by decide +kernel
theorem dX10_digest_37 : decode cX10_digest 37 = .ok (.aload_n 0, 1) := by decide +kernel
theorem dX10_digest_38 : decode cX10_digest 38 = .ok (.getfield 7, 3) := by decide +kernel
theorem dX10_digest_41 : decode cX10_digest 41 = .ok (.bipush 38, 2) := by decide +kernel
theorem dX10_digest_43 : decode cX10_digest 43 = .ok (.iaload, 1) := by decide +kernel
theorem dX10_digest_44 : decode cX10_digest 44 = .ok (.i2l, 1) := by decide +kernel
theorem dX10_digest_45 : decode cX10_digest 45 = .ok (.invokevirtual 277, 3) := by decide +kernel
theorem dX10_digest_48 : decode cX10_digest 48 = .ok (.iconst 0, 1) := by decide +kernel
theorem dX10_digest_49 : decode cX10_digest 49 = .ok (.istore_n 1, 1) := by decide +kernel
theorem dX10_digest_50 : decode cX10_digest 50 = .ok (.iload_n 1, 1) := by decide +kernel
theorem dX10_digest_51 : decode cX10_digest 51 = .ok (.aload_n 0, 1) := by decide +kernel
theorem dX10_digest_52 : decode cX10_digest 52 = .ok (.getfield 7, 3) := by decide +kernel
theorem dX10_digest_55 : decode cX10_digest 55 = .ok (.bipush 38, 2) := by decide +kernel
theorem dX10_digest_57 : decode cX10_digest 57 = .ok (.iaload, 1) := by decide +kernel
theorem dX10_digest_58 : decode cX10_digest 58 = .ok (.if_icmp .ge 23, 3) := by decide +kernel
theorem dX10_digest_61 : decode cX10_digest 61 = .ok (.aload_n 0, 1) := by decide +kernel
theorem dX10_digest_62 : decode cX10_digest 62 = .ok (.aload_n 0, 1) := by decide +kernel
theorem dX10_digest_63 : decode cX10_digest 63 = .ok (.getfield 7, 3) := by decide +kernel
theorem dX10_digest_66 : decode cX10_digest 66 = .ok (.bipush 39, 2) := by decide +kernel
theorem dX10_digest_68 : decode cX10_digest 68 = .ok (.iload_n 1, 1) := by decide +kernel
theorem dX10_digest_69 : decode cX10_digest 69 = .ok (.iadd, 1) := by decide +kernel
theorem dX10_digest_70 : decode cX10_digest 70 = .ok (.iaload, 1) := by decide +kernel
theorem dX10_digest_71 : decode cX10_digest 71 = .ok (.i2l, 1) := by decide +kernel
theorem dX10_digest_72 : decode cX10_digest 72 = .ok (.invokevirtual 277, 3) := by decide +kernel
theorem dX10_digest_75 : decode cX10_digest 75 = .ok (.iinc 1 1, 3) := by decide +kernel
theorem dX10_digest_78 : decode cX10_digest 78 = .ok (.goto (-28), 3) := by decide +kernel
theorem dX10_digest_81 : decode cX10_digest 81 = .ok (.aload_n 0, 1) := by decide +kernel
theorem dX10_digest_82 : decode cX10_digest 82 = .ok (.aload_n 0, 1) := by decide +kernel
theorem dX10_digest_83 : decode cX10_digest 83 = .ok (.getfield 7, 3) := by decide +kernel
theorem dX10_digest_86 : decode cX10_digest 86 = .ok (.bipush 43, 2) := by decide +kernel
theorem dX10_digest_88 : decode cX10_digest 88 = .ok (.iaload, 1) := by decide +kernel
theorem dX10_digest_89 : decode cX10_digest 89 = .ok (.i2l, 1) := by decide +kernel
theorem dX10_digest_90 : decode cX10_digest 90 = .ok (.invokevirtual 277, 3) := by decide +kernel
theorem dX10_digest_93 : decode cX10_digest 93 = .ok (.aload_n 0, 1) := by decide +kernel
theorem dX10_digest_94 : decode cX10_digest 94 = .ok (.aload_n 0, 1) := by decide +kernel
theorem dX10_digest_95 : decode cX10_digest 95 = .ok (.getfield 7, 3) := by decide +kernel
theorem dX10_digest_98 : decode cX10_digest 98 = .ok (.bipush 44, 2) := by decide +kernel
theorem dX10_digest_100 : decode cX10_digest 100 = .ok (.iaload, 1) := by decide +kernel
theorem dX10_digest_101 : decode cX10_digest 101 = .ok (.i2l, 1) := by decide +kernel
theorem dX10_digest_102 : decode cX10_digest 102 = .ok (.invokevirtual 277, 3) := by decide +kernel
theorem dX10_digest_105 : decode cX10_digest 105 = .ok (.aload_n 0, 1) := by decide +kernel
theorem dX10_digest_106 : decode cX10_digest 106 = .ok (.aload_n 0, 1) := by decide +kernel
theorem dX10_digest_107 : decode cX10_digest 107 = .ok (.invokevirtual 212, 3) := by decide +kernel
theorem dX10_digest_110 : decode cX10_digest 110 = .ok (.i2l, 1) := by decide +kernel
theorem dX10_digest_111 : decode cX10_digest 111 = .ok (.invokevirtual 277, 3) := by decide +kernel
theorem dX10_digest_114 : decode cX10_digest 114 = .ok (.aload_n 0, 1) := by decide +kernel
theorem dX10_digest_115 : decode cX10_digest 115 = .ok (.aload_n 0, 1) := by decide +kernel
theorem dX10_digest_116 : decode cX10_digest 116 = .ok (.invokevirtual 115, 3) := by decide +kernel
theorem dX10_digest_119 : decode cX10_digest 119 = .ok (.i2l, 1) := by decide +kernel
theorem dX10_digest_120 : decode cX10_digest 120 = .ok (.invokevirtual 277, 3) := by decide +kernel
theorem dX10_digest_123 : decode cX10_digest 123 = .ok (.aload_n 0, 1) := by decide +kernel
theorem dX10_digest_124 : decode cX10_digest 124 = .ok (.aload_n 0, 1) := by decide +kernel
theorem dX10_digest_125 : decode cX10_digest 125 = .ok (.invokevirtual 241, 3) := by decide +kernel
theorem dX10_digest_128 : decode cX10_digest 128 = .ok (.i2l, 1) := by decide +kernel
theorem dX10_digest_129 : decode cX10_digest 129 = .ok (.invokevirtual 277, 3) := by decide +kernel
theorem dX10_digest_132 : decode cX10_digest 132 = .ok (.aload_n 0, 1) := by decide +kernel
theorem dX10_digest_133 : decode cX10_digest 133 = .ok (.aload_n 0, 1) := by decide +kernel
theorem dX10_digest_134 : decode cX10_digest 134 = .ok (.invokevirtual 241, 3) := by decide +kernel
theorem dX10_digest_137 : decode cX10_digest 137 = .ok (.i2l, 1) := by decide +kernel
theorem dX10_digest_138 : decode cX10_digest 138 = .ok (.invokevirtual 277, 3) := by decide +kernel
theorem dX10_digest_141 : decode cX10_digest 141 = .ok (.aload_n 0, 1) := by decide +kernel
theorem dX10_digest_142 : decode cX10_digest 142 = .ok (.aload_n 0, 1) := by decide +kernel
theorem dX10_digest_143 : decode cX10_digest 143 = .ok (.bipush 6, 2) := by decide +kernel
theorem dX10_digest_145 : decode cX10_digest 145 = .ok (.iconst 5, 1) := by decide +kernel
theorem dX10_digest_146 : decode cX10_digest 146 = .ok (.invokevirtual 244, 3) := by decide +kernel
theorem dX10_digest_149 : decode cX10_digest 149 = .ok (.i2l, 1) := by decide +kernel
theorem dX10_digest_150 : decode cX10_digest 150 = .ok (.invokevirtual 277, 3) := by decide +kernel
theorem dX10_digest_153 : decode cX10_digest 153 = .ok (.aload_n 0, 1) := by decide +kernel
theorem dX10_digest_154 : decode cX10_digest 154 = .ok (.aload_n 0, 1) := by decide +kernel
theorem dX10_digest_155 : decode cX10_digest 155 = .ok (.getfield 56, 3) := by decide +kernel
theorem dX10_digest_158 : decode cX10_digest 158 = .ok (.i2l, 1) := by decide +kernel
theorem dX10_digest_159 : decode cX10_digest 159 = .ok (.invokevirtual 277, 3) := by decide +kernel
theorem dX10_digest_162 : decode cX10_digest 162 = .ok (.iconst 0, 1) := by decide +kernel
theorem dX10_digest_163 : decode cX10_digest 163 = .ok (.istore_n 1, 1) := by decide +kernel
theorem dX10_digest_164 : decode cX10_digest 164 = .ok (.iload_n 1, 1) := by decide +kernel
theorem dX10_digest_165 : decode cX10_digest 165 = .ok (.iconst 2, 1) := by decide +kernel
theorem dX10_digest_166 : decode cX10_digest 166 = .ok (.if_icmp .ge 125, 3) := by decide +kernel
theorem dX10_digest_169 : decode cX10_digest 169 = .ok (.aload_n 0, 1) := by decide +kernel
theorem dX10_digest_170 : decode cX10_digest 170 = .ok (.aload_n 0, 1) := by decide +kernel
theorem dX10_digest_171 : decode cX10_digest 171 = .ok (.iload_n 1, 1) := by decide +kernel
theorem dX10_digest_172 : decode cX10_digest 172 = .ok (.iconst (-1), 1) := by decide +kernel
theorem dX10_digest_173 : decode cX10_digest 173 = .ok (.invokevirtual 66, 3) := by decide +kernel
theorem dX10_digest_176 : decode cX10_digest 176 = .ok (.i2l, 1) := by decide +kernel
theorem dX10_digest_177 : decode cX10_digest 177 = .ok (.invokevirtual 277, 3) := by decide +kernel
theorem dX10_digest_180 : decode cX10_digest 180 = .ok (.aload_n 0, 1) := by decide +kernel
theorem dX10_digest_181 : decode cX10_digest 181 = .ok (.aload_n 0, 1) := by decide +kernel
theorem dX10_digest_182 : decode cX10_digest 182 = .ok (.iload_n 1, 1) := by decide +kernel
theorem dX10_digest_183 : decode cX10_digest 183 = .ok (.bipush 16, 2) := by decide +kernel
theorem dX10_digest_185 : decode cX10_digest 185 = .ok (.invokevirtual 66, 3) := by decide +kernel
theorem dX10_digest_188 : decode cX10_digest 188 = .ok (.i2l, 1) := by decide +kernel
theorem dX10_digest_189 : decode cX10_digest 189 = .ok (.invokevirtual 277, 3) := by decide +kernel
theorem dX10_digest_192 : decode cX10_digest 192 = .ok (.aload_n 0, 1) := by decide +kernel
theorem dX10_digest_193 : decode cX10_digest 193 = .ok (.aload_n 0, 1) := by decide +kernel
theorem dX10_digest_194 : decode cX10_digest 194 = .ok (.iload_n 1, 1) := by decide +kernel
theorem dX10_digest_195 : decode cX10_digest 195 = .ok (.invokevirtual 155, 3) := by decide +kernel
theorem dX10_digest_198 : decode cX10_digest 198 = .ok (.i2l, 1) := by decide +kernel
theorem dX10_digest_199 : decode cX10_digest 199 = .ok (.invokevirtual 277, 3) := by decide +kernel
theorem dX10_digest_202 : decode cX10_digest 202 = .ok (.aload_n 0, 1) := by decide +kernel
theorem dX10_digest_203 : decode cX10_digest 203 = .ok (.aload_n 0, 1) := by decide +kernel
theorem dX10_digest_204 : decode cX10_digest 204 = .ok (.iload_n 1, 1) := by decide +kernel
theorem dX10_digest_205 : decode cX10_digest 205 = .ok (.invokevirtual 206, 3) := by decide +kernel
theorem dX10_digest_208 : decode cX10_digest 208 = .ok (.i2l, 1) := by decide +kernel
theorem dX10_digest_209 : decode cX10_digest 209 = .ok (.invokevirtual 277, 3) := by decide +kernel
theorem dX10_digest_212 : decode cX10_digest 212 = .ok (.aload_n 0, 1) := by decide +kernel
theorem dX10_digest_213 : decode cX10_digest 213 = .ok (.aload_n 0, 1) := by decide +kernel
theorem dX10_digest_214 : decode cX10_digest 214 = .ok (.iload_n 1, 1) := by decide +kernel
theorem dX10_digest_215 : decode cX10_digest 215 = .ok (.invokevirtual 209, 3) := by decide +kernel
theorem dX10_digest_218 : decode cX10_digest 218 = .ok (.i2l, 1) := by decide +kernel
theorem dX10_digest_219 : decode cX10_digest 219 = .ok (.invokevirtual 277, 3) := by decide +kernel
theorem dX10_digest_222 : decode cX10_digest 222 = .ok (.aload_n 0, 1) := by decide +kernel
theorem dX10_digest_223 : decode cX10_digest 223 = .ok (.aload_n 0, 1) := by decide +kernel
theorem dX10_digest_224 : decode cX10_digest 224 = .ok (.getfield 7, 3) := by decide +kernel
theorem dX10_digest_227 : decode cX10_digest 227 = .ok (.bipush 45, 2) := by decide +kernel
theorem dX10_digest_229 : decode cX10_digest 229 = .ok (.iload_n 1, 1) := by decide +kernel
theorem dX10_digest_230 : decode cX10_digest 230 = .ok (.iadd, 1) := by decide +kernel
theorem dX10_digest_231 : decode cX10_digest 231 = .ok (.iaload, 1) := by decide +kernel
theorem dX10_digest_232 : decode cX10_digest 232 = .ok (.i2l, 1) := by decide +kernel
theorem dX10_digest_233 : decode cX10_digest 233 = .ok (.invokevirtual 277, 3) := by decide +kernel
theorem dX10_digest_236 : decode cX10_digest 236 = .ok (.aload_n 0, 1) := by decide +kernel
theorem dX10_digest_237 : decode cX10_digest 237 = .ok (.aload_n 0, 1) := by decide +kernel
theorem dX10_digest_238 : decode cX10_digest 238 = .ok (.getfield 7, 3) := by decide +kernel
theorem dX10_digest_241 : decode cX10_digest 241 = .ok (.bipush 47, 2) := by decide +kernel
theorem dX10_digest_243 : decode cX10_digest 243 = .ok (.iload_n 1, 1) := by decide +kernel
theorem dX10_digest_244 : decode cX10_digest 244 = .ok (.iadd, 1) := by decide +kernel
theorem dX10_digest_245 : decode cX10_digest 245 = .ok (.iaload, 1) := by decide +kernel
theorem dX10_digest_246 : decode cX10_digest 246 = .ok (.i2l, 1) := by decide +kernel
theorem dX10_digest_247 : decode cX10_digest 247 = .ok (.invokevirtual 277, 3) := by decide +kernel
theorem dX10_digest_250 : decode cX10_digest 250 = .ok (.aload_n 0, 1) := by decide +kernel
theorem dX10_digest_251 : decode cX10_digest 251 = .ok (.aload_n 0, 1) := by decide +kernel
theorem dX10_digest_252 : decode cX10_digest 252 = .ok (.iload_n 1, 1) := by decide +kernel
theorem dX10_digest_253 : decode cX10_digest 253 = .ok (.invokevirtual 256, 3) := by decide +kernel
theorem dX10_digest_256 : decode cX10_digest 256 = .ok (.i2l, 1) := by decide +kernel
theorem dX10_digest_257 : decode cX10_digest 257 = .ok (.invokevirtual 277, 3) := by decide +kernel
theorem dX10_digest_260 : decode cX10_digest 260 = .ok (.iconst 0, 1) := by decide +kernel
theorem dX10_digest_261 : decode cX10_digest 261 = .ok (.istore_n 2, 1) := by decide +kernel
theorem dX10_digest_262 : decode cX10_digest 262 = .ok (.iload_n 2, 1) := by decide +kernel
theorem dX10_digest_263 : decode cX10_digest 263 = .ok (.bipush 16, 2) := by decide +kernel
theorem dX10_digest_265 : decode cX10_digest 265 = .ok (.if_icmp .ge 20, 3) := by decide +kernel
theorem dX10_digest_268 : decode cX10_digest 268 = .ok (.aload_n 0, 1) := by decide +kernel
theorem dX10_digest_269 : decode cX10_digest 269 = .ok (.aload_n 0, 1) := by decide +kernel
theorem dX10_digest_270 : decode cX10_digest 270 = .ok (.iload_n 1, 1) := by decide +kernel
theorem dX10_digest_271 : decode cX10_digest 271 = .ok (.iload_n 2, 1) := by decide +kernel
theorem dX10_digest_272 : decode cX10_digest 272 = .ok (.invokevirtual 66, 3) := by decide +kernel
theorem dX10_digest_275 : decode cX10_digest 275 = .ok (.i2l, 1) := by decide +kernel
theorem dX10_digest_276 : decode cX10_digest 276 = .ok (.invokevirtual 277, 3) := by decide +kernel
theorem dX10_digest_279 : decode cX10_digest 279 = .ok (.iinc 2 1, 3) := by decide +kernel
theorem dX10_digest_282 : decode cX10_digest 282 = .ok (.goto (-20), 3) := by decide +kernel
theorem dX10_digest_285 : decode cX10_digest 285 = .ok (.iinc 1 1, 3) := by decide +kernel
theorem dX10_digest_288 : decode cX10_digest 288 = .ok (.goto (-124), 3) := by decide +kernel
theorem dX10_digest_291 : decode cX10_digest 291 = .ok (.iconst 0, 1) := by decide +kernel
theorem dX10_digest_292 : decode cX10_digest 292 = .ok (.istore_n 1, 1) := by decide +kernel
theorem dX10_digest_293 : decode cX10_digest 293 = .ok (.iload_n 1, 1) := by decide +kernel
theorem dX10_digest_294 : decode cX10_digest 294 = .ok (.bipush 16, 2) := by decide +kernel
theorem dX10_digest_296 : decode cX10_digest 296 = .ok (.if_icmp .ge 29, 3) := by decide +kernel
theorem dX10_digest_299 : decode cX10_digest 299 = .ok (.aload_n 0, 1) := by decide +kernel
theorem dX10_digest_300 : decode cX10_digest 300 = .ok (.aload_n 0, 1) := by decide +kernel
theorem dX10_digest_301 : decode cX10_digest 301 = .ok (.iload_n 1, 1) := by decide +kernel
theorem dX10_digest_302 : decode cX10_digest 302 = .ok (.invokevirtual 253, 3) := by decide +kernel
theorem dX10_digest_305 : decode cX10_digest 305 = .ok (.i2l, 1) := by decide +kernel
theorem dX10_digest_306 : decode cX10_digest 306 = .ok (.invokevirtual 277, 3) := by decide +kernel
theorem dX10_digest_309 : decode cX10_digest 309 = .ok (.aload_n 0, 1) := by decide +kernel
theorem dX10_digest_310 : decode cX10_digest 310 = .ok (.aload_n 0, 1) := by decide +kernel
theorem dX10_digest_311 : decode cX10_digest 311 = .ok (.iload_n 1, 1) := by decide +kernel
theorem dX10_digest_312 : decode cX10_digest 312 = .ok (.invokevirtual 253, 3) := by decide +kernel
theorem dX10_digest_315 : decode cX10_digest 315 = .ok (.i2l, 1) := by decide +kernel
theorem dX10_digest_316 : decode cX10_digest 316 = .ok (.invokevirtual 277, 3) := by decide +kernel
theorem dX10_digest_319 : decode cX10_digest 319 = .ok (.iinc 1 1, 3) := by decide +kernel
theorem dX10_digest_322 : decode cX10_digest 322 = .ok (.goto (-29), 3) := by decide +kernel
theorem dX10_digest_325 : decode cX10_digest 325 = .ok (.aload_n 0, 1) := by decide +kernel
theorem dX10_digest_326 : decode cX10_digest 326 = .ok (.aload_n 0, 1) := by decide +kernel
theorem dX10_digest_327 : decode cX10_digest 327 = .ok (.getfield 7, 3) := by decide +kernel
theorem dX10_digest_330 : decode cX10_digest 330 = .ok (.bipush 49, 2) := by decide +kernel
theorem dX10_digest_332 : decode cX10_digest 332 = .ok (.iaload, 1) := by decide +kernel
theorem dX10_digest_333 : decode cX10_digest 333 = .ok (.i2l, 1) := by decide +kernel
theorem dX10_digest_334 : decode cX10_digest 334 = .ok (.invokevirtual 277, 3) := by decide +kernel
theorem dX10_digest_337 : decode cX10_digest 337 = .ok (.aload_n 0, 1) := by decide +kernel
theorem dX10_digest_338 : decode cX10_digest 338 = .ok (.getfield 7, 3) := by decide +kernel
theorem dX10_digest_341 : decode cX10_digest 341 = .ok (.bipush 49, 2) := by decide +kernel
theorem dX10_digest_343 : decode cX10_digest 343 = .ok (.iaload, 1) := by decide +kernel
theorem dX10_digest_344 : decode cX10_digest 344 = .ok (.iconst 1, 1) := by decide +kernel
theorem dX10_digest_345 : decode cX10_digest 345 = .ok (.if_icmp .ne 15, 3) := by decide +kernel
theorem dX10_digest_348 : decode cX10_digest 348 = .ok (.aload_n 0, 1) := by decide +kernel
theorem dX10_digest_349 : decode cX10_digest 349 = .ok (.aload_n 0, 1) := by decide +kernel
theorem dX10_digest_350 : decode cX10_digest 350 = .ok (.getfield 7, 3) := by decide +kernel
theorem dX10_digest_353 : decode cX10_digest 353 = .ok (.bipush 50, 2) := by decide +kernel
theorem dX10_digest_355 : decode cX10_digest 355 = .ok (.iaload, 1) := by decide +kernel
theorem dX10_digest_356 : decode cX10_digest 356 = .ok (.i2l, 1) := by decide +kernel
theorem dX10_digest_357 : decode cX10_digest 357 = .ok (.invokevirtual 277, 3) := by decide +kernel
theorem dX10_digest_360 : decode cX10_digest 360 = .ok (.aload_n 0, 1) := by decide +kernel
theorem dX10_digest_361 : decode cX10_digest 361 = .ok (.aload_n 0, 1) := by decide +kernel
theorem dX10_digest_362 : decode cX10_digest 362 = .ok (.invokevirtual 261, 3) := by decide +kernel
theorem dX10_digest_365 : decode cX10_digest 365 = .ok (.bipush 52, 2) := by decide +kernel
theorem dX10_digest_367 : decode cX10_digest 367 = .ok (.sipush 1023, 3) := by decide +kernel
theorem dX10_digest_370 : decode cX10_digest 370 = .ok (.invokestatic 281, 3) := by decide +kernel
theorem dX10_digest_373 : decode cX10_digest 373 = .ok (.invokevirtual 277, 3) := by decide +kernel
theorem dX10_digest_376 : decode cX10_digest 376 = .ok (.aload_n 0, 1) := by decide +kernel
theorem dX10_digest_377 : decode cX10_digest 377 = .ok (.aload_n 0, 1) := by decide +kernel
theorem dX10_digest_378 : decode cX10_digest 378 = .ok (.getfield 173, 3) := by decide +kernel
theorem dX10_digest_381 : decode cX10_digest 381 = .ok (.i2l, 1) := by decide +kernel
theorem dX10_digest_382 : decode cX10_digest 382 = .ok (.invokevirtual 277, 3) := by decide +kernel
theorem dX10_digest_385 : decode cX10_digest 385 = .ok (.iconst 0, 1) := by decide +kernel
theorem dX10_digest_386 : decode cX10_digest 386 = .ok (.istore_n 1, 1) := by decide +kernel
theorem dX10_digest_387 : decode cX10_digest 387 = .ok (.iload_n 1, 1) := by decide +kernel
theorem dX10_digest_388 : decode cX10_digest 388 = .ok (.aload_n 0, 1) := by decide +kernel
theorem dX10_digest_389 : decode cX10_digest 389 = .ok (.getfield 173, 3) := by decide +kernel
theorem dX10_digest_392 : decode cX10_digest 392 = .ok (.if_icmp .ge 20, 3) := by decide +kernel
theorem dX10_digest_395 : decode cX10_digest 395 = .ok (.aload_n 0, 1) := by decide +kernel
theorem dX10_digest_396 : decode cX10_digest 396 = .ok (.aload_n 0, 1) := by decide +kernel
theorem dX10_digest_397 : decode cX10_digest 397 = .ok (.getfield 22, 3) := by decide +kernel
theorem dX10_digest_400 : decode cX10_digest 400 = .ok (.iload_n 1, 1) := by decide +kernel
theorem dX10_digest_401 : decode cX10_digest 401 = .ok (.iaload, 1) := by decide +kernel
theorem dX10_digest_402 : decode cX10_digest 402 = .ok (.i2l, 1) := by decide +kernel
theorem dX10_digest_403 : decode cX10_digest 403 = .ok (.invokevirtual 277, 3) := by decide +kernel
theorem dX10_digest_406 : decode cX10_digest 406 = .ok (.iinc 1 1, 3) := by decide +kernel
theorem dX10_digest_409 : decode cX10_digest 409 = .ok (.goto (-22), 3) := by decide +kernel
theorem dX10_digest_412 : decode cX10_digest 412 = .ok (.aload_n 0, 1) := by decide +kernel
theorem dX10_digest_413 : decode cX10_digest 413 = .ok (.getfield 271, 3) := by decide +kernel
theorem dX10_digest_416 : decode cX10_digest 416 = .ok (.lreturn, 1) := by decide +kernel
theorem dJ9_max_7cf53_0 : decode cJ9_max_7cf53 0 = .ok (.iload_n 0, 1) := by decide +kernel
theorem dJ9_max_7cf53_1 : decode cJ9_max_7cf53 1 = .ok (.iload_n 1, 1) := by decide +kernel
theorem dJ9_max_7cf53_2 : decode cJ9_max_7cf53 2 = .ok (.if_icmp .lt 7, 3) := by decide +kernel
theorem dJ9_max_7cf53_5 : decode cJ9_max_7cf53 5 = .ok (.iload_n 0, 1) := by decide +kernel
theorem dJ9_max_7cf53_6 : decode cJ9_max_7cf53 6 = .ok (.goto 4, 3) := by decide +kernel
theorem dJ9_max_7cf53_9 : decode cJ9_max_7cf53 9 = .ok (.iload_n 1, 1) := by decide +kernel
theorem dJ9_max_7cf53_10 : decode cJ9_max_7cf53 10 = .ok (.ireturn, 1) := by decide +kernel
