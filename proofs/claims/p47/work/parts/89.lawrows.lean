theorem dL_cell_0 : decode cL_cell 0 = .ok (.iload_n 1, 1) := by decide +kernel
theorem dL_cell_1 : decode cL_cell 1 = .ok (.aload_n 0, 1) := by decide +kernel
theorem dL_cell_2 : decode cL_cell 2 = .ok (.arraylength, 1) := by decide +kernel
theorem dL_cell_3 : decode cL_cell 3 = .ok (.if_icmp .ge 9, 3) := by decide +kernel
theorem dL_cell_6 : decode cL_cell 6 = .ok (.aload_n 0, 1) := by decide +kernel
theorem dL_cell_7 : decode cL_cell 7 = .ok (.iload_n 1, 1) := by decide +kernel
theorem dL_cell_8 : decode cL_cell 8 = .ok (.iaload, 1) := by decide +kernel
theorem dL_cell_9 : decode cL_cell 9 = .ok (.goto 15, 3) := by decide +kernel
theorem dL_cell_12 : decode cL_cell 12 = .ok (.sipush 7919, 3) := by decide +kernel
theorem dL_cell_15 : decode cL_cell 15 = .ok (.iload_n 1, 1) := by decide +kernel
theorem dL_cell_16 : decode cL_cell 16 = .ok (.iconst 3, 1) := by decide +kernel
theorem dL_cell_17 : decode cL_cell 17 = .ok (.iadd, 1) := by decide +kernel
theorem dL_cell_18 : decode cL_cell 18 = .ok (.imul, 1) := by decide +kernel
theorem dL_cell_19 : decode cL_cell 19 = .ok (.iload_n 1, 1) := by decide +kernel
theorem dL_cell_20 : decode cL_cell 20 = .ok (.bipush 11, 2) := by decide +kernel
theorem dL_cell_22 : decode cL_cell 22 = .ok (.iadd, 1) := by decide +kernel
theorem dL_cell_23 : decode cL_cell 23 = .ok (.imul, 1) := by decide +kernel
theorem dL_cell_24 : decode cL_cell 24 = .ok (.ireturn, 1) := by decide +kernel
theorem dL_low_0 : decode cL_low 0 = .ok (.iload_n 0, 1) := by decide +kernel
theorem dL_low_1 : decode cL_low 1 = .ok (.ldc 7, 2) := by decide +kernel
theorem dL_low_3 : decode cL_low 3 = .ok (.iand, 1) := by decide +kernel
theorem dL_low_4 : decode cL_low 4 = .ok (.iload_n 1, 1) := by decide +kernel
theorem dL_low_5 : decode cL_low 5 = .ok (.irem, 1) := by decide +kernel
theorem dL_low_6 : decode cL_low 6 = .ok (.ireturn, 1) := by decide +kernel
theorem dL_way_0 : decode cL_way 0 = .ok (.iload_n 1, 1) := by decide +kernel
theorem dL_way_1 : decode cL_way 1 = .ok (.ifCond .ge 8, 3) := by decide +kernel
theorem dL_way_4 : decode cL_way 4 = .ok (.bipush 17, 2) := by decide +kernel
theorem dL_way_6 : decode cL_way 6 = .ok (.goto 17, 3) := by decide +kernel
theorem dL_way_9 : decode cL_way 9 = .ok (.iload_n 0, 1) := by decide +kernel
theorem dL_way_10 : decode cL_way 10 = .ok (.ifCond .ne 10, 3) := by decide +kernel
theorem dL_way_13 : decode cL_way 13 = .ok (.bipush 16, 2) := by decide +kernel
theorem dL_way_15 : decode cL_way 15 = .ok (.iload_n 1, 1) := by decide +kernel
theorem dL_way_16 : decode cL_way 16 = .ok (.isub, 1) := by decide +kernel
theorem dL_way_17 : decode cL_way 17 = .ok (.goto 6, 3) := by decide +kernel
theorem dL_way_20 : decode cL_way 20 = .ok (.iload_n 1, 1) := by decide +kernel
theorem dL_way_21 : decode cL_way 21 = .ok (.iconst 1, 1) := by decide +kernel
theorem dL_way_22 : decode cL_way 22 = .ok (.iadd, 1) := by decide +kernel
theorem dL_way_23 : decode cL_way 23 = .ok (.ireturn, 1) := by decide +kernel
theorem dL_target_0 : decode cL_target 0 = .ok (.iload_n 0, 1) := by decide +kernel
theorem dL_target_1 : decode cL_target 1 = .ok (.iload_n 1, 1) := by decide +kernel
theorem dL_target_2 : decode cL_target 2 = .ok (.invokestatic 8, 3) := by decide +kernel
theorem dL_target_5 : decode cL_target 5 = .ok (.iload_n 2, 1) := by decide +kernel
theorem dL_target_6 : decode cL_target 6 = .ok (.isub, 1) := by decide +kernel
theorem dL_target_7 : decode cL_target 7 = .ok (.istore_n 3, 1) := by decide +kernel
theorem dL_target_8 : decode cL_target 8 = .ok (.iload_n 3, 1) := by decide +kernel
theorem dL_target_9 : decode cL_target 9 = .ok (.ifCond .gt 8, 3) := by decide +kernel
theorem dL_target_12 : decode cL_target 12 = .ok (.bipush 16, 2) := by decide +kernel
theorem dL_target_14 : decode cL_target 14 = .ok (.goto 17, 3) := by decide +kernel
theorem dL_target_17 : decode cL_target 17 = .ok (.iload_n 0, 1) := by decide +kernel
theorem dL_target_18 : decode cL_target 18 = .ok (.ifCond .ne 10, 3) := by decide +kernel
theorem dL_target_21 : decode cL_target 21 = .ok (.bipush 16, 2) := by decide +kernel
theorem dL_target_23 : decode cL_target 23 = .ok (.iload_n 3, 1) := by decide +kernel
theorem dL_target_24 : decode cL_target 24 = .ok (.isub, 1) := by decide +kernel
theorem dL_target_25 : decode cL_target 25 = .ok (.goto 6, 3) := by decide +kernel
theorem dL_target_28 : decode cL_target 28 = .ok (.iload_n 3, 1) := by decide +kernel
theorem dL_target_29 : decode cL_target 29 = .ok (.iconst 1, 1) := by decide +kernel
theorem dL_target_30 : decode cL_target 30 = .ok (.isub, 1) := by decide +kernel
theorem dL_target_31 : decode cL_target 31 = .ok (.ireturn, 1) := by decide +kernel
theorem dL_pieces_0 : decode cL_pieces 0 = .ok (.iload_n 2, 1) := by decide +kernel
theorem dL_pieces_1 : decode cL_pieces 1 = .ok (.ifCond .ge 11, 3) := by decide +kernel
theorem dL_pieces_4 : decode cL_pieces 4 = .ok (.aload_n 0, 1) := by decide +kernel
theorem dL_pieces_5 : decode cL_pieces 5 = .ok (.iload_n 1, 1) := by decide +kernel
theorem dL_pieces_6 : decode cL_pieces 6 = .ok (.invokevirtual 14, 3) := by decide +kernel
theorem dL_pieces_9 : decode cL_pieces 9 = .ok (.goto 9, 3) := by decide +kernel
theorem dL_pieces_12 : decode cL_pieces 12 = .ok (.aload_n 0, 1) := by decide +kernel
theorem dL_pieces_13 : decode cL_pieces 13 = .ok (.iload_n 1, 1) := by decide +kernel
theorem dL_pieces_14 : decode cL_pieces 14 = .ok (.iload_n 2, 1) := by decide +kernel
theorem dL_pieces_15 : decode cL_pieces 15 = .ok (.invokevirtual 20, 3) := by decide +kernel
theorem dL_pieces_18 : decode cL_pieces 18 = .ok (.ireturn, 1) := by decide +kernel
theorem dL_find_0 : decode cL_find 0 = .ok (.iconst (-1), 1) := by decide +kernel
theorem dL_find_1 : decode cL_find 1 = .ok (.istore_n 2, 1) := by decide +kernel
theorem dL_find_2 : decode cL_find 2 = .ok (.iconst 0, 1) := by decide +kernel
theorem dL_find_3 : decode cL_find 3 = .ok (.istore_n 3, 1) := by decide +kernel
theorem dL_find_4 : decode cL_find 4 = .ok (.iload_n 3, 1) := by decide +kernel
theorem dL_find_5 : decode cL_find 5 = .ok (.bipush 102, 2) := by decide +kernel
theorem dL_find_7 : decode cL_find 7 = .ok (.if_icmp .ge 68, 3) := by decide +kernel
theorem dL_find_10 : decode cL_find 10 = .ok (.iload_n 3, 1) := by decide +kernel
theorem dL_find_11 : decode cL_find 11 = .ok (.iload_n 1, 1) := by decide +kernel
theorem dL_find_12 : decode cL_find 12 = .ok (.bipush 102, 2) := by decide +kernel
theorem dL_find_14 : decode cL_find 14 = .ok (.invokestatic 23, 3) := by decide +kernel
theorem dL_find_17 : decode cL_find 17 = .ok (.iadd, 1) := by decide +kernel
theorem dL_find_18 : decode cL_find 18 = .ok (.bipush 102, 2) := by decide +kernel
theorem dL_find_20 : decode cL_find 20 = .ok (.irem, 1) := by decide +kernel
theorem dL_find_21 : decode cL_find 21 = .ok (.istore 4, 2) := by decide +kernel
theorem dL_find_23 : decode cL_find 23 = .ok (.iload_n 2, 1) := by decide +kernel
theorem dL_find_24 : decode cL_find 24 = .ok (.ifCond .ge 43, 3) := by decide +kernel
theorem dL_find_27 : decode cL_find 27 = .ok (.aload_n 0, 1) := by decide +kernel
theorem dL_find_28 : decode cL_find 28 = .ok (.iload 4, 2) := by decide +kernel
theorem dL_find_30 : decode cL_find 30 = .ok (.bipush 17, 2) := by decide +kernel
theorem dL_find_32 : decode cL_find 32 = .ok (.irem, 1) := by decide +kernel
theorem dL_find_33 : decode cL_find 33 = .ok (.iconst 1, 1) := by decide +kernel
theorem dL_find_34 : decode cL_find 34 = .ok (.isub, 1) := by decide +kernel
theorem dL_find_35 : decode cL_find 35 = .ok (.iconst 1, 1) := by decide +kernel
theorem dL_find_36 : decode cL_find 36 = .ok (.iload 4, 2) := by decide +kernel
theorem dL_find_38 : decode cL_find 38 = .ok (.bipush 17, 2) := by decide +kernel
theorem dL_find_40 : decode cL_find 40 = .ok (.idiv, 1) := by decide +kernel
theorem dL_find_41 : decode cL_find 41 = .ok (.iadd, 1) := by decide +kernel
theorem dL_find_42 : decode cL_find 42 = .ok (.invokevirtual 26, 3) := by decide +kernel
theorem dL_find_45 : decode cL_find 45 = .ok (.ifCond .ne 22, 3) := by decide +kernel
theorem dL_find_48 : decode cL_find 48 = .ok (.bipush 32, 2) := by decide +kernel
theorem dL_find_50 : decode cL_find 50 = .ok (.iconst 1, 1) := by decide +kernel
theorem dL_find_51 : decode cL_find 51 = .ok (.iload 4, 2) := by decide +kernel
theorem dL_find_53 : decode cL_find 53 = .ok (.bipush 17, 2) := by decide +kernel
theorem dL_find_55 : decode cL_find 55 = .ok (.idiv, 1) := by decide +kernel
theorem dL_find_56 : decode cL_find 56 = .ok (.iadd, 1) := by decide +kernel
theorem dL_find_57 : decode cL_find 57 = .ok (.imul, 1) := by decide +kernel
theorem dL_find_58 : decode cL_find 58 = .ok (.iload 4, 2) := by decide +kernel
theorem dL_find_60 : decode cL_find 60 = .ok (.bipush 17, 2) := by decide +kernel
theorem dL_find_62 : decode cL_find 62 = .ok (.irem, 1) := by decide +kernel
theorem dL_find_63 : decode cL_find 63 = .ok (.iadd, 1) := by decide +kernel
theorem dL_find_64 : decode cL_find 64 = .ok (.goto 4, 3) := by decide +kernel
theorem dL_find_67 : decode cL_find 67 = .ok (.iload_n 2, 1) := by decide +kernel
theorem dL_find_68 : decode cL_find 68 = .ok (.istore_n 2, 1) := by decide +kernel
theorem dL_find_69 : decode cL_find 69 = .ok (.iinc 3 1, 3) := by decide +kernel
theorem dL_find_72 : decode cL_find 72 = .ok (.goto (-68), 3) := by decide +kernel
theorem dL_find_75 : decode cL_find 75 = .ok (.iload_n 2, 1) := by decide +kernel
theorem dL_find_76 : decode cL_find 76 = .ok (.ireturn, 1) := by decide +kernel
theorem dL_isStepped_0 : decode cL_isStepped 0 = .ok (.aload_n 0, 1) := by decide +kernel
theorem dL_isStepped_1 : decode cL_isStepped 1 = .ok (.iload_n 1, 1) := by decide +kernel
theorem dL_isStepped_2 : decode cL_isStepped 2 = .ok (.invokestatic 29, 3) := by decide +kernel
theorem dL_isStepped_5 : decode cL_isStepped 5 = .ok (.istore_n 2, 1) := by decide +kernel
theorem dL_isStepped_6 : decode cL_isStepped 6 = .ok (.iload_n 2, 1) := by decide +kernel
theorem dL_isStepped_7 : decode cL_isStepped 7 = .ok (.ifCond .ge 31, 3) := by decide +kernel
theorem dL_isStepped_10 : decode cL_isStepped 10 = .ok (.aload_n 0, 1) := by decide +kernel
theorem dL_isStepped_11 : decode cL_isStepped 11 = .ok (.invokevirtual 33, 3) := by decide +kernel
theorem dL_isStepped_14 : decode cL_isStepped 14 = .ok (.ifCond .ne 22, 3) := by decide +kernel
theorem dL_isStepped_17 : decode cL_isStepped 17 = .ok (.aload_n 0, 1) := by decide +kernel
theorem dL_isStepped_18 : decode cL_isStepped 18 = .ok (.invokevirtual 37, 3) := by decide +kernel
theorem dL_isStepped_21 : decode cL_isStepped 21 = .ok (.ifCond .ne 15, 3) := by decide +kernel
theorem dL_isStepped_24 : decode cL_isStepped 24 = .ok (.aload_n 0, 1) := by decide +kernel
theorem dL_isStepped_25 : decode cL_isStepped 25 = .ok (.invokevirtual 40, 3) := by decide +kernel
theorem dL_isStepped_28 : decode cL_isStepped 28 = .ok (.iconst 1, 1) := by decide +kernel
theorem dL_isStepped_29 : decode cL_isStepped 29 = .ok (.if_icmp .ne 7, 3) := by decide +kernel
theorem dL_isStepped_32 : decode cL_isStepped 32 = .ok (.iconst 1, 1) := by decide +kernel
theorem dL_isStepped_33 : decode cL_isStepped 33 = .ok (.goto 4, 3) := by decide +kernel
theorem dL_isStepped_36 : decode cL_isStepped 36 = .ok (.iconst 0, 1) := by decide +kernel
theorem dL_isStepped_37 : decode cL_isStepped 37 = .ok (.ireturn, 1) := by decide +kernel
theorem dL_isStepped_38 : decode cL_isStepped 38 = .ok (.iload_n 2, 1) := by decide +kernel
theorem dL_isStepped_39 : decode cL_isStepped 39 = .ok (.bipush 32, 2) := by decide +kernel
theorem dL_isStepped_41 : decode cL_isStepped 41 = .ok (.irem, 1) := by decide +kernel
theorem dL_isStepped_42 : decode cL_isStepped 42 = .ok (.iconst 1, 1) := by decide +kernel
theorem dL_isStepped_43 : decode cL_isStepped 43 = .ok (.isub, 1) := by decide +kernel
theorem dL_isStepped_44 : decode cL_isStepped 44 = .ok (.istore_n 3, 1) := by decide +kernel
theorem dL_isStepped_45 : decode cL_isStepped 45 = .ok (.iload_n 2, 1) := by decide +kernel
theorem dL_isStepped_46 : decode cL_isStepped 46 = .ok (.bipush 32, 2) := by decide +kernel
theorem dL_isStepped_48 : decode cL_isStepped 48 = .ok (.idiv, 1) := by decide +kernel
theorem dL_isStepped_49 : decode cL_isStepped 49 = .ok (.istore 4, 2) := by decide +kernel
theorem dL_isStepped_51 : decode cL_isStepped 51 = .ok (.aload_n 0, 1) := by decide +kernel
theorem dL_isStepped_52 : decode cL_isStepped 52 = .ok (.invokevirtual 43, 3) := by decide +kernel
theorem dL_isStepped_55 : decode cL_isStepped 55 = .ok (.istore 5, 2) := by decide +kernel
theorem dL_isStepped_57 : decode cL_isStepped 57 = .ok (.iload 5, 2) := by decide +kernel
theorem dL_isStepped_59 : decode cL_isStepped 59 = .ok (.iload_n 3, 1) := by decide +kernel
theorem dL_isStepped_60 : decode cL_isStepped 60 = .ok (.iload 4, 2) := by decide +kernel
theorem dL_isStepped_62 : decode cL_isStepped 62 = .ok (.invokestatic 46, 3) := by decide +kernel
theorem dL_isStepped_65 : decode cL_isStepped 65 = .ok (.istore 6, 2) := by decide +kernel
theorem dL_isStepped_67 : decode cL_isStepped 67 = .ok (.iload 6, 2) := by decide +kernel
theorem dL_isStepped_69 : decode cL_isStepped 69 = .ok (.bipush 16, 2) := by decide +kernel
theorem dL_isStepped_71 : decode cL_isStepped 71 = .ok (.if_icmp .ge 21, 3) := by decide +kernel
theorem dL_isStepped_74 : decode cL_isStepped 74 = .ok (.aload_n 0, 1) := by decide +kernel
theorem dL_isStepped_75 : decode cL_isStepped 75 = .ok (.iconst 1, 1) := by decide +kernel
theorem dL_isStepped_76 : decode cL_isStepped 76 = .ok (.iload 5, 2) := by decide +kernel
theorem dL_isStepped_78 : decode cL_isStepped 78 = .ok (.isub, 1) := by decide +kernel
theorem dL_isStepped_79 : decode cL_isStepped 79 = .ok (.iload 6, 2) := by decide +kernel
theorem dL_isStepped_81 : decode cL_isStepped 81 = .ok (.invokevirtual 20, 3) := by decide +kernel
theorem dL_isStepped_84 : decode cL_isStepped 84 = .ok (.iconst 1, 1) := by decide +kernel
theorem dL_isStepped_85 : decode cL_isStepped 85 = .ok (.if_icmp .ne 7, 3) := by decide +kernel
theorem dL_isStepped_88 : decode cL_isStepped 88 = .ok (.iconst 1, 1) := by decide +kernel
theorem dL_isStepped_89 : decode cL_isStepped 89 = .ok (.goto 4, 3) := by decide +kernel
theorem dL_isStepped_92 : decode cL_isStepped 92 = .ok (.iconst 0, 1) := by decide +kernel
theorem dL_isStepped_93 : decode cL_isStepped 93 = .ok (.istore 7, 2) := by decide +kernel
theorem dL_isStepped_95 : decode cL_isStepped 95 = .ok (.aload_n 0, 1) := by decide +kernel
theorem dL_isStepped_96 : decode cL_isStepped 96 = .ok (.invokevirtual 50, 3) := by decide +kernel
theorem dL_isStepped_99 : decode cL_isStepped 99 = .ok (.istore 8, 2) := by decide +kernel
theorem dL_isStepped_101 : decode cL_isStepped 101 = .ok (.aload_n 0, 1) := by decide +kernel
theorem dL_isStepped_102 : decode cL_isStepped 102 = .ok (.invokevirtual 33, 3) := by decide +kernel
theorem dL_isStepped_105 : decode cL_isStepped 105 = .ok (.istore 9, 2) := by decide +kernel
theorem dL_isStepped_107 : decode cL_isStepped 107 = .ok (.aload_n 0, 1) := by decide +kernel
theorem dL_isStepped_108 : decode cL_isStepped 108 = .ok (.iconst 1, 1) := by decide +kernel
theorem dL_isStepped_109 : decode cL_isStepped 109 = .ok (.iload 5, 2) := by decide +kernel
theorem dL_isStepped_111 : decode cL_isStepped 111 = .ok (.isub, 1) := by decide +kernel
theorem dL_isStepped_112 : decode cL_isStepped 112 = .ok (.invokevirtual 53, 3) := by decide +kernel
theorem dL_isStepped_115 : decode cL_isStepped 115 = .ok (.istore 10, 2) := by decide +kernel
theorem dL_isStepped_117 : decode cL_isStepped 117 = .ok (.aload_n 0, 1) := by decide +kernel
theorem dL_isStepped_118 : decode cL_isStepped 118 = .ok (.iconst 1, 1) := by decide +kernel
theorem dL_isStepped_119 : decode cL_isStepped 119 = .ok (.iload 5, 2) := by decide +kernel
theorem dL_isStepped_121 : decode cL_isStepped 121 = .ok (.isub, 1) := by decide +kernel
theorem dL_isStepped_122 : decode cL_isStepped 122 = .ok (.invokevirtual 14, 3) := by decide +kernel
theorem dL_isStepped_125 : decode cL_isStepped 125 = .ok (.istore 11, 2) := by decide +kernel
theorem dL_isStepped_127 : decode cL_isStepped 127 = .ok (.aload_n 0, 1) := by decide +kernel
theorem dL_isStepped_128 : decode cL_isStepped 128 = .ok (.iload 5, 2) := by decide +kernel
theorem dL_isStepped_130 : decode cL_isStepped 130 = .ok (.invokevirtual 56, 3) := by decide +kernel
theorem dL_isStepped_133 : decode cL_isStepped 133 = .ok (.istore 12, 2) := by decide +kernel
theorem dL_isStepped_135 : decode cL_isStepped 135 = .ok (.aload_n 0, 1) := by decide +kernel
theorem dL_isStepped_136 : decode cL_isStepped 136 = .ok (.iload_n 3, 1) := by decide +kernel
theorem dL_isStepped_137 : decode cL_isStepped 137 = .ok (.iload 4, 2) := by decide +kernel
theorem dL_isStepped_139 : decode cL_isStepped 139 = .ok (.invokevirtual 59, 3) := by decide +kernel
theorem dL_isStepped_142 : decode cL_isStepped 142 = .ok (.istore 13, 2) := by decide +kernel
theorem dL_isStepped_144 : decode cL_isStepped 144 = .ok (.aload_n 0, 1) := by decide +kernel
theorem dL_isStepped_145 : decode cL_isStepped 145 = .ok (.iload 5, 2) := by decide +kernel
theorem dL_isStepped_147 : decode cL_isStepped 147 = .ok (.invokevirtual 62, 3) := by decide +kernel
theorem dL_isStepped_150 : decode cL_isStepped 150 = .ok (.istore 14, 2) := by decide +kernel
theorem dL_isStepped_152 : decode cL_isStepped 152 = .ok (.aload_n 0, 1) := by decide +kernel
theorem dL_isStepped_153 : decode cL_isStepped 153 = .ok (.iload 5, 2) := by decide +kernel
theorem dL_isStepped_155 : decode cL_isStepped 155 = .ok (.iload_n 3, 1) := by decide +kernel
theorem dL_isStepped_156 : decode cL_isStepped 156 = .ok (.invokestatic 65, 3) := by decide +kernel
theorem dL_isStepped_159 : decode cL_isStepped 159 = .ok (.ifCond .le 46, 3) := by decide +kernel
theorem dL_isStepped_162 : decode cL_isStepped 162 = .ok (.iload_n 3, 1) := by decide +kernel
theorem dL_isStepped_163 : decode cL_isStepped 163 = .ok (.ifCond .lt 12, 3) := by decide +kernel
theorem dL_isStepped_166 : decode cL_isStepped 166 = .ok (.aload_n 0, 1) := by decide +kernel
theorem dL_isStepped_167 : decode cL_isStepped 167 = .ok (.iload 5, 2) := by decide +kernel
theorem dL_isStepped_169 : decode cL_isStepped 169 = .ok (.invokevirtual 14, 3) := by decide +kernel
theorem dL_isStepped_172 : decode cL_isStepped 172 = .ok (.ifCond .ne 33, 3) := by decide +kernel
theorem dL_isStepped_175 : decode cL_isStepped 175 = .ok (.iload 9, 2) := by decide +kernel
theorem dL_isStepped_177 : decode cL_isStepped 177 = .ok (.ifCond .le 28, 3) := by decide +kernel
theorem dL_isStepped_180 : decode cL_isStepped 180 = .ok (.iload 6, 2) := by decide +kernel
theorem dL_isStepped_182 : decode cL_isStepped 182 = .ok (.bipush 16, 2) := by decide +kernel
theorem dL_isStepped_184 : decode cL_isStepped 184 = .ok (.if_icmp .eq 17, 3) := by decide +kernel
theorem dL_isStepped_187 : decode cL_isStepped 187 = .ok (.aload_n 0, 1) := by decide +kernel
theorem dL_isStepped_188 : decode cL_isStepped 188 = .ok (.iconst 1, 1) := by decide +kernel
theorem dL_isStepped_189 : decode cL_isStepped 189 = .ok (.iload 5, 2) := by decide +kernel
theorem dL_isStepped_191 : decode cL_isStepped 191 = .ok (.isub, 1) := by decide +kernel
theorem dL_isStepped_192 : decode cL_isStepped 192 = .ok (.iload 6, 2) := by decide +kernel
theorem dL_isStepped_194 : decode cL_isStepped 194 = .ok (.invokevirtual 20, 3) := by decide +kernel
theorem dL_isStepped_197 : decode cL_isStepped 197 = .ok (.iconst 2, 1) := by decide +kernel
theorem dL_isStepped_198 : decode cL_isStepped 198 = .ok (.if_icmp .ge 7, 3) := by decide +kernel
theorem dL_isStepped_201 : decode cL_isStepped 201 = .ok (.iconst 1, 1) := by decide +kernel
theorem dL_isStepped_202 : decode cL_isStepped 202 = .ok (.goto 4, 3) := by decide +kernel
theorem dL_isStepped_205 : decode cL_isStepped 205 = .ok (.iconst 0, 1) := by decide +kernel
theorem dL_isStepped_206 : decode cL_isStepped 206 = .ok (.istore 15, 2) := by decide +kernel
theorem dL_isStepped_208 : decode cL_isStepped 208 = .ok (.iload 15, 2) := by decide +kernel
theorem dL_isStepped_210 : decode cL_isStepped 210 = .ok (.ifCond .eq 121, 3) := by decide +kernel
theorem dL_isStepped_213 : decode cL_isStepped 213 = .ok (.aload_n 0, 1) := by decide +kernel
theorem dL_isStepped_214 : decode cL_isStepped 214 = .ok (.iload_n 3, 1) := by decide +kernel
theorem dL_isStepped_215 : decode cL_isStepped 215 = .ok (.iload 4, 2) := by decide +kernel
theorem dL_isStepped_217 : decode cL_isStepped 217 = .ok (.invokevirtual 69, 3) := by decide +kernel
theorem dL_isStepped_220 : decode cL_isStepped 220 = .ok (.iload 7, 2) := by decide +kernel
theorem dL_isStepped_222 : decode cL_isStepped 222 = .ok (.if_icmp .ne 109, 3) := by decide +kernel
theorem dL_isStepped_225 : decode cL_isStepped 225 = .ok (.aload_n 0, 1) := by decide +kernel
theorem dL_isStepped_226 : decode cL_isStepped 226 = .ok (.iconst 1, 1) := by decide +kernel
theorem dL_isStepped_227 : decode cL_isStepped 227 = .ok (.iload 5, 2) := by decide +kernel
theorem dL_isStepped_229 : decode cL_isStepped 229 = .ok (.isub, 1) := by decide +kernel
theorem dL_isStepped_230 : decode cL_isStepped 230 = .ok (.invokevirtual 53, 3) := by decide +kernel
theorem dL_isStepped_233 : decode cL_isStepped 233 = .ok (.iload 10, 2) := by decide +kernel
theorem dL_isStepped_235 : decode cL_isStepped 235 = .ok (.iload 7, 2) := by decide +kernel
theorem dL_isStepped_237 : decode cL_isStepped 237 = .ok (.ifCond .eq 7, 3) := by decide +kernel
theorem dL_isStepped_240 : decode cL_isStepped 240 = .ok (.iconst 1, 1) := by decide +kernel
theorem dL_isStepped_241 : decode cL_isStepped 241 = .ok (.goto 4, 3) := by decide +kernel
theorem dL_isStepped_244 : decode cL_isStepped 244 = .ok (.iconst 0, 1) := by decide +kernel
theorem dL_isStepped_245 : decode cL_isStepped 245 = .ok (.iadd, 1) := by decide +kernel
theorem dL_isStepped_246 : decode cL_isStepped 246 = .ok (.if_icmp .ne 85, 3) := by decide +kernel
theorem dL_isStepped_249 : decode cL_isStepped 249 = .ok (.aload_n 0, 1) := by decide +kernel
theorem dL_isStepped_250 : decode cL_isStepped 250 = .ok (.iconst 1, 1) := by decide +kernel
theorem dL_isStepped_251 : decode cL_isStepped 251 = .ok (.iload 5, 2) := by decide +kernel
theorem dL_isStepped_253 : decode cL_isStepped 253 = .ok (.isub, 1) := by decide +kernel
theorem dL_isStepped_254 : decode cL_isStepped 254 = .ok (.invokevirtual 14, 3) := by decide +kernel
theorem dL_isStepped_257 : decode cL_isStepped 257 = .ok (.iload 11, 2) := by decide +kernel
theorem dL_isStepped_259 : decode cL_isStepped 259 = .ok (.iload 7, 2) := by decide +kernel
theorem dL_isStepped_261 : decode cL_isStepped 261 = .ok (.ifCond .eq 7, 3) := by decide +kernel
theorem dL_isStepped_264 : decode cL_isStepped 264 = .ok (.iconst 1, 1) := by decide +kernel
theorem dL_isStepped_265 : decode cL_isStepped 265 = .ok (.goto 4, 3) := by decide +kernel
theorem dL_isStepped_268 : decode cL_isStepped 268 = .ok (.iconst 0, 1) := by decide +kernel
theorem dL_isStepped_269 : decode cL_isStepped 269 = .ok (.iadd, 1) := by decide +kernel
theorem dL_isStepped_270 : decode cL_isStepped 270 = .ok (.if_icmp .ne 61, 3) := by decide +kernel
theorem dL_isStepped_273 : decode cL_isStepped 273 = .ok (.aload_n 0, 1) := by decide +kernel
theorem dL_isStepped_274 : decode cL_isStepped 274 = .ok (.iload 5, 2) := by decide +kernel
theorem dL_isStepped_276 : decode cL_isStepped 276 = .ok (.invokevirtual 56, 3) := by decide +kernel
theorem dL_isStepped_279 : decode cL_isStepped 279 = .ok (.iload 12, 2) := by decide +kernel
theorem dL_isStepped_281 : decode cL_isStepped 281 = .ok (.iload 6, 2) := by decide +kernel
theorem dL_isStepped_283 : decode cL_isStepped 283 = .ok (.bipush 16, 2) := by decide +kernel
theorem dL_isStepped_285 : decode cL_isStepped 285 = .ok (.if_icmp .ne 7, 3) := by decide +kernel
theorem dL_isStepped_288 : decode cL_isStepped 288 = .ok (.iconst 1, 1) := by decide +kernel
theorem dL_isStepped_289 : decode cL_isStepped 289 = .ok (.goto 4, 3) := by decide +kernel
theorem dL_isStepped_292 : decode cL_isStepped 292 = .ok (.iconst 0, 1) := by decide +kernel
theorem dL_isStepped_293 : decode cL_isStepped 293 = .ok (.iadd, 1) := by decide +kernel
theorem dL_isStepped_294 : decode cL_isStepped 294 = .ok (.if_icmp .ne 37, 3) := by decide +kernel
theorem dL_isStepped_297 : decode cL_isStepped 297 = .ok (.aload_n 0, 1) := by decide +kernel
theorem dL_isStepped_298 : decode cL_isStepped 298 = .ok (.iload 5, 2) := by decide +kernel
theorem dL_isStepped_300 : decode cL_isStepped 300 = .ok (.invokevirtual 62, 3) := by decide +kernel
theorem dL_isStepped_303 : decode cL_isStepped 303 = .ok (.iload 14, 2) := by decide +kernel
theorem dL_isStepped_305 : decode cL_isStepped 305 = .ok (.iload 6, 2) := by decide +kernel
theorem dL_isStepped_307 : decode cL_isStepped 307 = .ok (.bipush 16, 2) := by decide +kernel
theorem dL_isStepped_309 : decode cL_isStepped 309 = .ok (.if_icmp .ne 12, 3) := by decide +kernel
theorem dL_isStepped_312 : decode cL_isStepped 312 = .ok (.iload 5, 2) := by decide +kernel
theorem dL_isStepped_314 : decode cL_isStepped 314 = .ok (.iload_n 3, 1) := by decide +kernel
theorem dL_isStepped_315 : decode cL_isStepped 315 = .ok (.invokestatic 8, 3) := by decide +kernel
theorem dL_isStepped_318 : decode cL_isStepped 318 = .ok (.goto 5, 3) := by decide +kernel
theorem dL_isStepped_321 : decode cL_isStepped 321 = .ok (.iload 4, 2) := by decide +kernel
theorem dL_isStepped_323 : decode cL_isStepped 323 = .ok (.isub, 1) := by decide +kernel
theorem dL_isStepped_324 : decode cL_isStepped 324 = .ok (.if_icmp .ne 7, 3) := by decide +kernel
theorem dL_isStepped_327 : decode cL_isStepped 327 = .ok (.iconst 1, 1) := by decide +kernel
theorem dL_isStepped_328 : decode cL_isStepped 328 = .ok (.goto 4, 3) := by decide +kernel
theorem dL_isStepped_331 : decode cL_isStepped 331 = .ok (.iconst 0, 1) := by decide +kernel
theorem dL_isStepped_332 : decode cL_isStepped 332 = .ok (.istore 15, 2) := by decide +kernel
theorem dL_isStepped_334 : decode cL_isStepped 334 = .ok (.aload_n 0, 1) := by decide +kernel
theorem dL_isStepped_335 : decode cL_isStepped 335 = .ok (.invokevirtual 73, 3) := by decide +kernel
theorem dL_isStepped_338 : decode cL_isStepped 338 = .ok (.iconst 3, 1) := by decide +kernel
theorem dL_isStepped_339 : decode cL_isStepped 339 = .ok (.if_icmp .ne 41, 3) := by decide +kernel
theorem dL_isStepped_342 : decode cL_isStepped 342 = .ok (.iload 15, 2) := by decide +kernel
theorem dL_isStepped_344 : decode cL_isStepped 344 = .ok (.ifCond .eq 34, 3) := by decide +kernel
theorem dL_isStepped_347 : decode cL_isStepped 347 = .ok (.aload_n 0, 1) := by decide +kernel
theorem dL_isStepped_348 : decode cL_isStepped 348 = .ok (.iload 5, 2) := by decide +kernel
theorem dL_isStepped_350 : decode cL_isStepped 350 = .ok (.invokevirtual 56, 3) := by decide +kernel
theorem dL_isStepped_353 : decode cL_isStepped 353 = .ok (.bipush 6, 2) := by decide +kernel
theorem dL_isStepped_355 : decode cL_isStepped 355 = .ok (.if_icmp .ne 23, 3) := by decide +kernel
theorem dL_isStepped_358 : decode cL_isStepped 358 = .ok (.aload_n 0, 1) := by decide +kernel
theorem dL_isStepped_359 : decode cL_isStepped 359 = .ok (.invokevirtual 50, 3) := by decide +kernel
theorem dL_isStepped_362 : decode cL_isStepped 362 = .ok (.ifCond .ne 16, 3) := by decide +kernel
theorem dL_isStepped_365 : decode cL_isStepped 365 = .ok (.aload_n 0, 1) := by decide +kernel
theorem dL_isStepped_366 : decode cL_isStepped 366 = .ok (.iload 5, 2) := by decide +kernel
theorem dL_isStepped_368 : decode cL_isStepped 368 = .ok (.invokevirtual 62, 3) := by decide +kernel
theorem dL_isStepped_371 : decode cL_isStepped 371 = .ok (.ifCond .ne 7, 3) := by decide +kernel
theorem dL_isStepped_374 : decode cL_isStepped 374 = .ok (.iconst 1, 1) := by decide +kernel
theorem dL_isStepped_375 : decode cL_isStepped 375 = .ok (.goto 4, 3) := by decide +kernel
theorem dL_isStepped_378 : decode cL_isStepped 378 = .ok (.iconst 0, 1) := by decide +kernel
theorem dL_isStepped_379 : decode cL_isStepped 379 = .ok (.ireturn, 1) := by decide +kernel
theorem dL_isStepped_380 : decode cL_isStepped 380 = .ok (.iload 15, 2) := by decide +kernel
theorem dL_isStepped_382 : decode cL_isStepped 382 = .ok (.ifCond .eq 72, 3) := by decide +kernel
theorem dL_isStepped_385 : decode cL_isStepped 385 = .ok (.aload_n 0, 1) := by decide +kernel
theorem dL_isStepped_386 : decode cL_isStepped 386 = .ok (.invokevirtual 73, 3) := by decide +kernel
theorem dL_isStepped_389 : decode cL_isStepped 389 = .ok (.iconst 1, 1) := by decide +kernel
theorem dL_isStepped_390 : decode cL_isStepped 390 = .ok (.if_icmp .ne 64, 3) := by decide +kernel
theorem dL_isStepped_393 : decode cL_isStepped 393 = .ok (.aload_n 0, 1) := by decide +kernel
theorem dL_isStepped_394 : decode cL_isStepped 394 = .ok (.iload 5, 2) := by decide +kernel
theorem dL_isStepped_396 : decode cL_isStepped 396 = .ok (.invokevirtual 76, 3) := by decide +kernel
theorem dL_isStepped_399 : decode cL_isStepped 399 = .ok (.iload 13, 2) := by decide +kernel
theorem dL_isStepped_401 : decode cL_isStepped 401 = .ok (.if_icmp .ne 53, 3) := by decide +kernel
theorem dL_isStepped_404 : decode cL_isStepped 404 = .ok (.aload_n 0, 1) := by decide +kernel
theorem dL_isStepped_405 : decode cL_isStepped 405 = .ok (.invokevirtual 50, 3) := by decide +kernel
theorem dL_isStepped_408 : decode cL_isStepped 408 = .ok (.iload 8, 2) := by decide +kernel
theorem dL_isStepped_410 : decode cL_isStepped 410 = .ok (.iconst 1, 1) := by decide +kernel
theorem dL_isStepped_411 : decode cL_isStepped 411 = .ok (.isub, 1) := by decide +kernel
theorem dL_isStepped_412 : decode cL_isStepped 412 = .ok (.if_icmp .ne 42, 3) := by decide +kernel
theorem dL_isStepped_415 : decode cL_isStepped 415 = .ok (.aload_n 0, 1) := by decide +kernel
theorem dL_isStepped_416 : decode cL_isStepped 416 = .ok (.invokevirtual 33, 3) := by decide +kernel
theorem dL_isStepped_419 : decode cL_isStepped 419 = .ok (.iload 9, 2) := by decide +kernel
theorem dL_isStepped_421 : decode cL_isStepped 421 = .ok (.iconst 1, 1) := by decide +kernel
theorem dL_isStepped_422 : decode cL_isStepped 422 = .ok (.isub, 1) := by decide +kernel
theorem dL_isStepped_423 : decode cL_isStepped 423 = .ok (.if_icmp .ne 31, 3) := by decide +kernel
theorem dL_isStepped_426 : decode cL_isStepped 426 = .ok (.iload 6, 2) := by decide +kernel
theorem dL_isStepped_428 : decode cL_isStepped 428 = .ok (.bipush 16, 2) := by decide +kernel
theorem dL_isStepped_430 : decode cL_isStepped 430 = .ok (.if_icmp .eq 20, 3) := by decide +kernel
theorem dL_isStepped_433 : decode cL_isStepped 433 = .ok (.iload 7, 2) := by decide +kernel
theorem dL_isStepped_435 : decode cL_isStepped 435 = .ok (.ifCond .eq 15, 3) := by decide +kernel
theorem dL_isStepped_438 : decode cL_isStepped 438 = .ok (.aload_n 0, 1) := by decide +kernel
theorem dL_isStepped_439 : decode cL_isStepped 439 = .ok (.iload 5, 2) := by decide +kernel
theorem dL_isStepped_441 : decode cL_isStepped 441 = .ok (.iload 6, 2) := by decide +kernel
theorem dL_isStepped_443 : decode cL_isStepped 443 = .ok (.invokevirtual 20, 3) := by decide +kernel
theorem dL_isStepped_446 : decode cL_isStepped 446 = .ok (.iconst 1, 1) := by decide +kernel
theorem dL_isStepped_447 : decode cL_isStepped 447 = .ok (.if_icmp .ne 7, 3) := by decide +kernel
theorem dL_isStepped_450 : decode cL_isStepped 450 = .ok (.iconst 1, 1) := by decide +kernel
theorem dL_isStepped_451 : decode cL_isStepped 451 = .ok (.goto 4, 3) := by decide +kernel
theorem dL_isStepped_454 : decode cL_isStepped 454 = .ok (.iconst 0, 1) := by decide +kernel
theorem dL_isStepped_455 : decode cL_isStepped 455 = .ok (.ireturn, 1) := by decide +kernel
theorem dL_isRolled_0 : decode cL_isRolled 0 = .ok (.iconst 1, 1) := by decide +kernel
theorem dL_isRolled_1 : decode cL_isRolled 1 = .ok (.iload_n 1, 1) := by decide +kernel
theorem dL_isRolled_2 : decode cL_isRolled 2 = .ok (.bipush 6, 2) := by decide +kernel
theorem dL_isRolled_4 : decode cL_isRolled 4 = .ok (.invokestatic 23, 3) := by decide +kernel
theorem dL_isRolled_7 : decode cL_isRolled 7 = .ok (.iadd, 1) := by decide +kernel
theorem dL_isRolled_8 : decode cL_isRolled 8 = .ok (.istore_n 2, 1) := by decide +kernel
theorem dL_isRolled_9 : decode cL_isRolled 9 = .ok (.iload_n 1, 1) := by decide +kernel
theorem dL_isRolled_10 : decode cL_isRolled 10 = .ok (.iconst 3, 1) := by decide +kernel
theorem dL_isRolled_11 : decode cL_isRolled 11 = .ok (.iand, 1) := by decide +kernel
theorem dL_isRolled_12 : decode cL_isRolled 12 = .ok (.ifCond .ne 7, 3) := by decide +kernel
theorem dL_isRolled_15 : decode cL_isRolled 15 = .ok (.iload_n 2, 1) := by decide +kernel
theorem dL_isRolled_16 : decode cL_isRolled 16 = .ok (.goto 13, 3) := by decide +kernel
theorem dL_isRolled_19 : decode cL_isRolled 19 = .ok (.iconst 1, 1) := by decide +kernel
theorem dL_isRolled_20 : decode cL_isRolled 20 = .ok (.iload_n 1, 1) := by decide +kernel
theorem dL_isRolled_21 : decode cL_isRolled 21 = .ok (.iconst 3, 1) := by decide +kernel
theorem dL_isRolled_22 : decode cL_isRolled 22 = .ok (.ishr, 1) := by decide +kernel
theorem dL_isRolled_23 : decode cL_isRolled 23 = .ok (.bipush 6, 2) := by decide +kernel
theorem dL_isRolled_25 : decode cL_isRolled 25 = .ok (.invokestatic 23, 3) := by decide +kernel
theorem dL_isRolled_28 : decode cL_isRolled 28 = .ok (.iadd, 1) := by decide +kernel
theorem dL_isRolled_29 : decode cL_isRolled 29 = .ok (.istore_n 3, 1) := by decide +kernel
theorem dL_isRolled_30 : decode cL_isRolled 30 = .ok (.aload_n 0, 1) := by decide +kernel
theorem dL_isRolled_31 : decode cL_isRolled 31 = .ok (.iload_n 2, 1) := by decide +kernel
theorem dL_isRolled_32 : decode cL_isRolled 32 = .ok (.iload_n 3, 1) := by decide +kernel
theorem dL_isRolled_33 : decode cL_isRolled 33 = .ok (.invokevirtual 79, 3) := by decide +kernel
theorem dL_isRolled_36 : decode cL_isRolled 36 = .ok (.istore 4, 2) := by decide +kernel
theorem dL_isRolled_38 : decode cL_isRolled 38 = .ok (.aload_n 0, 1) := by decide +kernel
theorem dL_isRolled_39 : decode cL_isRolled 39 = .ok (.iload_n 3, 1) := by decide +kernel
theorem dL_isRolled_40 : decode cL_isRolled 40 = .ok (.iload_n 2, 1) := by decide +kernel
theorem dL_isRolled_41 : decode cL_isRolled 41 = .ok (.invokevirtual 79, 3) := by decide +kernel
theorem dL_isRolled_44 : decode cL_isRolled 44 = .ok (.iload 4, 2) := by decide +kernel
theorem dL_isRolled_46 : decode cL_isRolled 46 = .ok (.if_icmp .ne 7, 3) := by decide +kernel
theorem dL_isRolled_49 : decode cL_isRolled 49 = .ok (.iconst 1, 1) := by decide +kernel
theorem dL_isRolled_50 : decode cL_isRolled 50 = .ok (.goto 4, 3) := by decide +kernel
theorem dL_isRolled_53 : decode cL_isRolled 53 = .ok (.iconst 0, 1) := by decide +kernel
theorem dL_isRolled_54 : decode cL_isRolled 54 = .ok (.istore 5, 2) := by decide +kernel
theorem dL_isRolled_56 : decode cL_isRolled 56 = .ok (.aload_n 0, 1) := by decide +kernel
theorem dL_isRolled_57 : decode cL_isRolled 57 = .ok (.iload_n 2, 1) := by decide +kernel
theorem dL_isRolled_58 : decode cL_isRolled 58 = .ok (.iload_n 3, 1) := by decide +kernel
theorem dL_isRolled_59 : decode cL_isRolled 59 = .ok (.invokevirtual 82, 3) := by decide +kernel
theorem dL_isRolled_62 : decode cL_isRolled 62 = .ok (.istore 6, 2) := by decide +kernel
theorem dL_isRolled_64 : decode cL_isRolled 64 = .ok (.iload 5, 2) := by decide +kernel
theorem dL_isRolled_66 : decode cL_isRolled 66 = .ok (.ifCond .eq 75, 3) := by decide +kernel
theorem dL_isRolled_69 : decode cL_isRolled 69 = .ok (.iload 6, 2) := by decide +kernel
theorem dL_isRolled_71 : decode cL_isRolled 71 = .ok (.iload_n 2, 1) := by decide +kernel
theorem dL_isRolled_72 : decode cL_isRolled 72 = .ok (.iload_n 3, 1) := by decide +kernel
theorem dL_isRolled_73 : decode cL_isRolled 73 = .ok (.if_icmp .ne 7, 3) := by decide +kernel
theorem dL_isRolled_76 : decode cL_isRolled 76 = .ok (.iconst 4, 1) := by decide +kernel
theorem dL_isRolled_77 : decode cL_isRolled 77 = .ok (.goto 4, 3) := by decide +kernel
theorem dL_isRolled_80 : decode cL_isRolled 80 = .ok (.iconst 2, 1) := by decide +kernel
theorem dL_isRolled_81 : decode cL_isRolled 81 = .ok (.if_icmp .ne 60, 3) := by decide +kernel
theorem dL_isRolled_84 : decode cL_isRolled 84 = .ok (.aload_n 0, 1) := by decide +kernel
theorem dL_isRolled_85 : decode cL_isRolled 85 = .ok (.invokevirtual 50, 3) := by decide +kernel
theorem dL_isRolled_88 : decode cL_isRolled 88 = .ok (.iload 6, 2) := by decide +kernel
theorem dL_isRolled_90 : decode cL_isRolled 90 = .ok (.if_icmp .ne 51, 3) := by decide +kernel
theorem dL_isRolled_93 : decode cL_isRolled 93 = .ok (.aload_n 0, 1) := by decide +kernel
theorem dL_isRolled_94 : decode cL_isRolled 94 = .ok (.invokevirtual 73, 3) := by decide +kernel
theorem dL_isRolled_97 : decode cL_isRolled 97 = .ok (.iconst 1, 1) := by decide +kernel
theorem dL_isRolled_98 : decode cL_isRolled 98 = .ok (.if_icmp .ne 43, 3) := by decide +kernel
theorem dL_isRolled_101 : decode cL_isRolled 101 = .ok (.aload_n 0, 1) := by decide +kernel
theorem dL_isRolled_102 : decode cL_isRolled 102 = .ok (.iconst 0, 1) := by decide +kernel
theorem dL_isRolled_103 : decode cL_isRolled 103 = .ok (.invokevirtual 85, 3) := by decide +kernel
theorem dL_isRolled_106 : decode cL_isRolled 106 = .ok (.iload_n 2, 1) := by decide +kernel
theorem dL_isRolled_107 : decode cL_isRolled 107 = .ok (.if_icmp .ne 34, 3) := by decide +kernel
theorem dL_isRolled_110 : decode cL_isRolled 110 = .ok (.aload_n 0, 1) := by decide +kernel
theorem dL_isRolled_111 : decode cL_isRolled 111 = .ok (.iconst 1, 1) := by decide +kernel
theorem dL_isRolled_112 : decode cL_isRolled 112 = .ok (.invokevirtual 85, 3) := by decide +kernel
theorem dL_isRolled_115 : decode cL_isRolled 115 = .ok (.iload_n 3, 1) := by decide +kernel
theorem dL_isRolled_116 : decode cL_isRolled 116 = .ok (.if_icmp .ne 25, 3) := by decide +kernel
theorem dL_isRolled_119 : decode cL_isRolled 119 = .ok (.aload_n 0, 1) := by decide +kernel
theorem dL_isRolled_120 : decode cL_isRolled 120 = .ok (.invokevirtual 40, 3) := by decide +kernel
theorem dL_isRolled_123 : decode cL_isRolled 123 = .ok (.iload 4, 2) := by decide +kernel
theorem dL_isRolled_125 : decode cL_isRolled 125 = .ok (.if_icmp .ne 16, 3) := by decide +kernel
theorem dL_isRolled_128 : decode cL_isRolled 128 = .ok (.aload_n 0, 1) := by decide +kernel
theorem dL_isRolled_129 : decode cL_isRolled 129 = .ok (.invokevirtual 33, 3) := by decide +kernel
theorem dL_isRolled_132 : decode cL_isRolled 132 = .ok (.iload 6, 2) := by decide +kernel
theorem dL_isRolled_134 : decode cL_isRolled 134 = .ok (.if_icmp .gt 7, 3) := by decide +kernel
theorem dL_isRolled_137 : decode cL_isRolled 137 = .ok (.iconst 1, 1) := by decide +kernel
theorem dL_isRolled_138 : decode cL_isRolled 138 = .ok (.goto 4, 3) := by decide +kernel
theorem dL_isRolled_141 : decode cL_isRolled 141 = .ok (.iconst 0, 1) := by decide +kernel
theorem dL_isRolled_142 : decode cL_isRolled 142 = .ok (.ireturn, 1) := by decide +kernel
theorem dL_isOffered_0 : decode cL_isOffered 0 = .ok (.aload_n 0, 1) := by decide +kernel
theorem dL_isOffered_1 : decode cL_isOffered 1 = .ok (.invokevirtual 88, 3) := by decide +kernel
theorem dL_isOffered_4 : decode cL_isOffered 4 = .ok (.istore_n 2, 1) := by decide +kernel
theorem dL_isOffered_5 : decode cL_isOffered 5 = .ok (.aload_n 0, 1) := by decide +kernel
theorem dL_isOffered_6 : decode cL_isOffered 6 = .ok (.invokevirtual 43, 3) := by decide +kernel
theorem dL_isOffered_9 : decode cL_isOffered 9 = .ok (.istore_n 3, 1) := by decide +kernel
theorem dL_isOffered_10 : decode cL_isOffered 10 = .ok (.aload_n 0, 1) := by decide +kernel
theorem dL_isOffered_11 : decode cL_isOffered 11 = .ok (.iload_n 3, 1) := by decide +kernel
theorem dL_isOffered_12 : decode cL_isOffered 12 = .ok (.invokevirtual 91, 3) := by decide +kernel
theorem dL_isOffered_15 : decode cL_isOffered 15 = .ok (.istore 4, 2) := by decide +kernel
theorem dL_isOffered_17 : decode cL_isOffered 17 = .ok (.iload_n 2, 1) := by decide +kernel
theorem dL_isOffered_18 : decode cL_isOffered 18 = .ok (.bipush 32, 2) := by decide +kernel
theorem dL_isOffered_20 : decode cL_isOffered 20 = .ok (.if_icmp .gt 13, 3) := by decide +kernel
theorem dL_isOffered_23 : decode cL_isOffered 23 = .ok (.aload_n 0, 1) := by decide +kernel
theorem dL_isOffered_24 : decode cL_isOffered 24 = .ok (.invokevirtual 94, 3) := by decide +kernel
theorem dL_isOffered_27 : decode cL_isOffered 27 = .ok (.iconst 1, 1) := by decide +kernel
theorem dL_isOffered_28 : decode cL_isOffered 28 = .ok (.iload_n 3, 1) := by decide +kernel
theorem dL_isOffered_29 : decode cL_isOffered 29 = .ok (.isub, 1) := by decide +kernel
theorem dL_isOffered_30 : decode cL_isOffered 30 = .ok (.if_icmp .ne 5, 3) := by decide +kernel
theorem dL_isOffered_33 : decode cL_isOffered 33 = .ok (.iconst 1, 1) := by decide +kernel
theorem dL_isOffered_34 : decode cL_isOffered 34 = .ok (.ireturn, 1) := by decide +kernel
theorem dL_isOffered_35 : decode cL_isOffered 35 = .ok (.aload_n 0, 1) := by decide +kernel
theorem dL_isOffered_36 : decode cL_isOffered 36 = .ok (.invokevirtual 97, 3) := by decide +kernel
theorem dL_isOffered_39 : decode cL_isOffered 39 = .ok (.iconst 2, 1) := by decide +kernel
theorem dL_isOffered_40 : decode cL_isOffered 40 = .ok (.iload_n 2, 1) := by decide +kernel
theorem dL_isOffered_41 : decode cL_isOffered 41 = .ok (.imul, 1) := by decide +kernel
theorem dL_isOffered_42 : decode cL_isOffered 42 = .ok (.if_icmp .ne 23, 3) := by decide +kernel
theorem dL_isOffered_45 : decode cL_isOffered 45 = .ok (.aload_n 0, 1) := by decide +kernel
theorem dL_isOffered_46 : decode cL_isOffered 46 = .ok (.invokevirtual 73, 3) := by decide +kernel
theorem dL_isOffered_49 : decode cL_isOffered 49 = .ok (.iconst 2, 1) := by decide +kernel
theorem dL_isOffered_50 : decode cL_isOffered 50 = .ok (.if_icmp .ne 15, 3) := by decide +kernel
theorem dL_isOffered_53 : decode cL_isOffered 53 = .ok (.aload_n 0, 1) := by decide +kernel
theorem dL_isOffered_54 : decode cL_isOffered 54 = .ok (.invokevirtual 88, 3) := by decide +kernel
theorem dL_isOffered_57 : decode cL_isOffered 57 = .ok (.iload_n 2, 1) := by decide +kernel
theorem dL_isOffered_58 : decode cL_isOffered 58 = .ok (.if_icmp .ne 7, 3) := by decide +kernel
theorem dL_isOffered_61 : decode cL_isOffered 61 = .ok (.iconst 1, 1) := by decide +kernel
theorem dL_isOffered_62 : decode cL_isOffered 62 = .ok (.goto 4, 3) := by decide +kernel
theorem dL_isOffered_65 : decode cL_isOffered 65 = .ok (.iconst 0, 1) := by decide +kernel
theorem dL_isOffered_66 : decode cL_isOffered 66 = .ok (.istore 5, 2) := by decide +kernel
theorem dL_isOffered_68 : decode cL_isOffered 68 = .ok (.iload_n 1, 1) := by decide +kernel
theorem dL_isOffered_69 : decode cL_isOffered 69 = .ok (.ifCond .eq 59, 3) := by decide +kernel
theorem dL_isOffered_72 : decode cL_isOffered 72 = .ok (.iload 5, 2) := by decide +kernel
theorem dL_isOffered_74 : decode cL_isOffered 74 = .ok (.ifCond .eq 52, 3) := by decide +kernel
theorem dL_isOffered_77 : decode cL_isOffered 77 = .ok (.aload_n 0, 1) := by decide +kernel
theorem dL_isOffered_78 : decode cL_isOffered 78 = .ok (.invokevirtual 100, 3) := by decide +kernel
theorem dL_isOffered_81 : decode cL_isOffered 81 = .ok (.iconst 2, 1) := by decide +kernel
theorem dL_isOffered_82 : decode cL_isOffered 82 = .ok (.iload_n 2, 1) := by decide +kernel
theorem dL_isOffered_83 : decode cL_isOffered 83 = .ok (.imul, 1) := by decide +kernel
theorem dL_isOffered_84 : decode cL_isOffered 84 = .ok (.if_icmp .ne 42, 3) := by decide +kernel
theorem dL_isOffered_87 : decode cL_isOffered 87 = .ok (.aload_n 0, 1) := by decide +kernel
theorem dL_isOffered_88 : decode cL_isOffered 88 = .ok (.invokevirtual 88, 3) := by decide +kernel
theorem dL_isOffered_91 : decode cL_isOffered 91 = .ok (.iconst 2, 1) := by decide +kernel
theorem dL_isOffered_92 : decode cL_isOffered 92 = .ok (.iload_n 2, 1) := by decide +kernel
theorem dL_isOffered_93 : decode cL_isOffered 93 = .ok (.imul, 1) := by decide +kernel
theorem dL_isOffered_94 : decode cL_isOffered 94 = .ok (.if_icmp .ne 32, 3) := by decide +kernel
theorem dL_isOffered_97 : decode cL_isOffered 97 = .ok (.aload_n 0, 1) := by decide +kernel
theorem dL_isOffered_98 : decode cL_isOffered 98 = .ok (.invokevirtual 94, 3) := by decide +kernel
theorem dL_isOffered_101 : decode cL_isOffered 101 = .ok (.iconst 1, 1) := by decide +kernel
theorem dL_isOffered_102 : decode cL_isOffered 102 = .ok (.iload_n 3, 1) := by decide +kernel
theorem dL_isOffered_103 : decode cL_isOffered 103 = .ok (.isub, 1) := by decide +kernel
theorem dL_isOffered_104 : decode cL_isOffered 104 = .ok (.if_icmp .ne 22, 3) := by decide +kernel
theorem dL_isOffered_107 : decode cL_isOffered 107 = .ok (.aload_n 0, 1) := by decide +kernel
theorem dL_isOffered_108 : decode cL_isOffered 108 = .ok (.invokevirtual 73, 3) := by decide +kernel
theorem dL_isOffered_111 : decode cL_isOffered 111 = .ok (.ifCond .ne 15, 3) := by decide +kernel
theorem dL_isOffered_114 : decode cL_isOffered 114 = .ok (.aload_n 0, 1) := by decide +kernel
theorem dL_isOffered_115 : decode cL_isOffered 115 = .ok (.invokevirtual 43, 3) := by decide +kernel
theorem dL_isOffered_118 : decode cL_isOffered 118 = .ok (.iload_n 3, 1) := by decide +kernel
theorem dL_isOffered_119 : decode cL_isOffered 119 = .ok (.if_icmp .ne 7, 3) := by decide +kernel
theorem dL_isOffered_122 : decode cL_isOffered 122 = .ok (.iconst 1, 1) := by decide +kernel
theorem dL_isOffered_123 : decode cL_isOffered 123 = .ok (.goto 4, 3) := by decide +kernel
theorem dL_isOffered_126 : decode cL_isOffered 126 = .ok (.iconst 0, 1) := by decide +kernel
theorem dL_isOffered_127 : decode cL_isOffered 127 = .ok (.ireturn, 1) := by decide +kernel
theorem dL_isOffered_128 : decode cL_isOffered 128 = .ok (.iload 5, 2) := by decide +kernel
theorem dL_isOffered_130 : decode cL_isOffered 130 = .ok (.ifCond .eq 38, 3) := by decide +kernel
theorem dL_isOffered_133 : decode cL_isOffered 133 = .ok (.aload_n 0, 1) := by decide +kernel
theorem dL_isOffered_134 : decode cL_isOffered 134 = .ok (.invokevirtual 103, 3) := by decide +kernel
theorem dL_isOffered_137 : decode cL_isOffered 137 = .ok (.iload 4, 2) := by decide +kernel
theorem dL_isOffered_139 : decode cL_isOffered 139 = .ok (.iload_n 2, 1) := by decide +kernel
theorem dL_isOffered_140 : decode cL_isOffered 140 = .ok (.iadd, 1) := by decide +kernel
theorem dL_isOffered_141 : decode cL_isOffered 141 = .ok (.if_icmp .ne 27, 3) := by decide +kernel
theorem dL_isOffered_144 : decode cL_isOffered 144 = .ok (.aload_n 0, 1) := by decide +kernel
theorem dL_isOffered_145 : decode cL_isOffered 145 = .ok (.invokevirtual 73, 3) := by decide +kernel
theorem dL_isOffered_148 : decode cL_isOffered 148 = .ok (.iconst 3, 1) := by decide +kernel
theorem dL_isOffered_149 : decode cL_isOffered 149 = .ok (.if_icmp .ne 19, 3) := by decide +kernel
theorem dL_isOffered_152 : decode cL_isOffered 152 = .ok (.aload_n 0, 1) := by decide +kernel
theorem dL_isOffered_153 : decode cL_isOffered 153 = .ok (.iload_n 3, 1) := by decide +kernel
theorem dL_isOffered_154 : decode cL_isOffered 154 = .ok (.invokevirtual 91, 3) := by decide +kernel
theorem dL_isOffered_157 : decode cL_isOffered 157 = .ok (.iload 4, 2) := by decide +kernel
theorem dL_isOffered_159 : decode cL_isOffered 159 = .ok (.iload_n 2, 1) := by decide +kernel
theorem dL_isOffered_160 : decode cL_isOffered 160 = .ok (.iadd, 1) := by decide +kernel
theorem dL_isOffered_161 : decode cL_isOffered 161 = .ok (.if_icmp .ne 7, 3) := by decide +kernel
theorem dL_isOffered_164 : decode cL_isOffered 164 = .ok (.iconst 1, 1) := by decide +kernel
theorem dL_isOffered_165 : decode cL_isOffered 165 = .ok (.goto 4, 3) := by decide +kernel
theorem dL_isOffered_168 : decode cL_isOffered 168 = .ok (.iconst 0, 1) := by decide +kernel
theorem dL_isOffered_169 : decode cL_isOffered 169 = .ok (.ireturn, 1) := by decide +kernel
theorem dL_isAnew_0 : decode cL_isAnew 0 = .ok (.aload_n 0, 1) := by decide +kernel
theorem dL_isAnew_1 : decode cL_isAnew 1 = .ok (.invokevirtual 43, 3) := by decide +kernel
theorem dL_isAnew_4 : decode cL_isAnew 4 = .ok (.istore_n 1, 1) := by decide +kernel
theorem dL_isAnew_5 : decode cL_isAnew 5 = .ok (.aload_n 0, 1) := by decide +kernel
theorem dL_isAnew_6 : decode cL_isAnew 6 = .ok (.invokevirtual 106, 3) := by decide +kernel
theorem dL_isAnew_9 : decode cL_isAnew 9 = .ok (.iconst 1, 1) := by decide +kernel
theorem dL_isAnew_10 : decode cL_isAnew 10 = .ok (.iload_n 1, 1) := by decide +kernel
theorem dL_isAnew_11 : decode cL_isAnew 11 = .ok (.isub, 1) := by decide +kernel
theorem dL_isAnew_12 : decode cL_isAnew 12 = .ok (.if_icmp .ne 76, 3) := by decide +kernel
theorem dL_isAnew_15 : decode cL_isAnew 15 = .ok (.aload_n 0, 1) := by decide +kernel
theorem dL_isAnew_16 : decode cL_isAnew 16 = .ok (.invokevirtual 43, 3) := by decide +kernel
theorem dL_isAnew_19 : decode cL_isAnew 19 = .ok (.iconst 1, 1) := by decide +kernel
theorem dL_isAnew_20 : decode cL_isAnew 20 = .ok (.iload_n 1, 1) := by decide +kernel
theorem dL_isAnew_21 : decode cL_isAnew 21 = .ok (.isub, 1) := by decide +kernel
theorem dL_isAnew_22 : decode cL_isAnew 22 = .ok (.if_icmp .ne 66, 3) := by decide +kernel
theorem dL_isAnew_25 : decode cL_isAnew 25 = .ok (.aload_n 0, 1) := by decide +kernel
theorem dL_isAnew_26 : decode cL_isAnew 26 = .ok (.invokevirtual 88, 3) := by decide +kernel
theorem dL_isAnew_29 : decode cL_isAnew 29 = .ok (.iconst 1, 1) := by decide +kernel
theorem dL_isAnew_30 : decode cL_isAnew 30 = .ok (.if_icmp .ne 58, 3) := by decide +kernel
theorem dL_isAnew_33 : decode cL_isAnew 33 = .ok (.aload_n 0, 1) := by decide +kernel
theorem dL_isAnew_34 : decode cL_isAnew 34 = .ok (.invokevirtual 94, 3) := by decide +kernel
theorem dL_isAnew_37 : decode cL_isAnew 37 = .ok (.iconst (-1), 1) := by decide +kernel
theorem dL_isAnew_38 : decode cL_isAnew 38 = .ok (.if_icmp .ne 50, 3) := by decide +kernel
theorem dL_isAnew_41 : decode cL_isAnew 41 = .ok (.aload_n 0, 1) := by decide +kernel
theorem dL_isAnew_42 : decode cL_isAnew 42 = .ok (.invokevirtual 73, 3) := by decide +kernel
theorem dL_isAnew_45 : decode cL_isAnew 45 = .ok (.ifCond .ne 43, 3) := by decide +kernel
theorem dL_isAnew_48 : decode cL_isAnew 48 = .ok (.aload_n 0, 1) := by decide +kernel
theorem dL_isAnew_49 : decode cL_isAnew 49 = .ok (.iconst 0, 1) := by decide +kernel
theorem dL_isAnew_50 : decode cL_isAnew 50 = .ok (.invokevirtual 62, 3) := by decide +kernel
theorem dL_isAnew_53 : decode cL_isAnew 53 = .ok (.bipush 74, 2) := by decide +kernel
theorem dL_isAnew_55 : decode cL_isAnew 55 = .ok (.if_icmp .ne 33, 3) := by decide +kernel
theorem dL_isAnew_58 : decode cL_isAnew 58 = .ok (.aload_n 0, 1) := by decide +kernel
theorem dL_isAnew_59 : decode cL_isAnew 59 = .ok (.iconst 1, 1) := by decide +kernel
theorem dL_isAnew_60 : decode cL_isAnew 60 = .ok (.invokevirtual 62, 3) := by decide +kernel
theorem dL_isAnew_63 : decode cL_isAnew 63 = .ok (.bipush 74, 2) := by decide +kernel
theorem dL_isAnew_65 : decode cL_isAnew 65 = .ok (.if_icmp .ne 23, 3) := by decide +kernel
theorem dL_isAnew_68 : decode cL_isAnew 68 = .ok (.aload_n 0, 1) := by decide +kernel
theorem dL_isAnew_69 : decode cL_isAnew 69 = .ok (.iconst 0, 1) := by decide +kernel
theorem dL_isAnew_70 : decode cL_isAnew 70 = .ok (.invokevirtual 76, 3) := by decide +kernel
theorem dL_isAnew_73 : decode cL_isAnew 73 = .ok (.ifCond .ne 15, 3) := by decide +kernel
theorem dL_isAnew_76 : decode cL_isAnew 76 = .ok (.aload_n 0, 1) := by decide +kernel
theorem dL_isAnew_77 : decode cL_isAnew 77 = .ok (.iconst 1, 1) := by decide +kernel
theorem dL_isAnew_78 : decode cL_isAnew 78 = .ok (.invokevirtual 76, 3) := by decide +kernel
theorem dL_isAnew_81 : decode cL_isAnew 81 = .ok (.ifCond .ne 7, 3) := by decide +kernel
theorem dL_isAnew_84 : decode cL_isAnew 84 = .ok (.iconst 1, 1) := by decide +kernel
theorem dL_isAnew_85 : decode cL_isAnew 85 = .ok (.goto 4, 3) := by decide +kernel
theorem dL_isAnew_88 : decode cL_isAnew 88 = .ok (.iconst 0, 1) := by decide +kernel
theorem dL_isAnew_89 : decode cL_isAnew 89 = .ok (.ireturn, 1) := by decide +kernel
theorem dL_isCarried_0 : decode cL_isCarried 0 = .ok (.iload_n 1, 1) := by decide +kernel
theorem dL_isCarried_1 : decode cL_isCarried 1 = .ok (.iconst 1, 1) := by decide +kernel
theorem dL_isCarried_2 : decode cL_isCarried 2 = .ok (.iand, 1) := by decide +kernel
theorem dL_isCarried_3 : decode cL_isCarried 3 = .ok (.istore_n 2, 1) := by decide +kernel
theorem dL_isCarried_4 : decode cL_isCarried 4 = .ok (.iload_n 1, 1) := by decide +kernel
theorem dL_isCarried_5 : decode cL_isCarried 5 = .ok (.iconst 1, 1) := by decide +kernel
theorem dL_isCarried_6 : decode cL_isCarried 6 = .ok (.ishr, 1) := by decide +kernel
theorem dL_isCarried_7 : decode cL_isCarried 7 = .ok (.bipush 16, 2) := by decide +kernel
theorem dL_isCarried_9 : decode cL_isCarried 9 = .ok (.invokestatic 23, 3) := by decide +kernel
theorem dL_isCarried_12 : decode cL_isCarried 12 = .ok (.istore_n 3, 1) := by decide +kernel
theorem dL_isCarried_13 : decode cL_isCarried 13 = .ok (.iload_n 1, 1) := by decide +kernel
theorem dL_isCarried_14 : decode cL_isCarried 14 = .ok (.iconst 5, 1) := by decide +kernel
theorem dL_isCarried_15 : decode cL_isCarried 15 = .ok (.ishr, 1) := by decide +kernel
theorem dL_isCarried_16 : decode cL_isCarried 16 = .ok (.bipush 16, 2) := by decide +kernel
theorem dL_isCarried_18 : decode cL_isCarried 18 = .ok (.invokestatic 23, 3) := by decide +kernel
theorem dL_isCarried_21 : decode cL_isCarried 21 = .ok (.istore 4, 2) := by decide +kernel
theorem dL_isCarried_23 : decode cL_isCarried 23 = .ok (.aload_n 0, 1) := by decide +kernel
theorem dL_isCarried_24 : decode cL_isCarried 24 = .ok (.iload_n 2, 1) := by decide +kernel
theorem dL_isCarried_25 : decode cL_isCarried 25 = .ok (.iload_n 3, 1) := by decide +kernel
theorem dL_isCarried_26 : decode cL_isCarried 26 = .ok (.invokevirtual 20, 3) := by decide +kernel
theorem dL_isCarried_29 : decode cL_isCarried 29 = .ok (.ifCond .eq 15, 3) := by decide +kernel
theorem dL_isCarried_32 : decode cL_isCarried 32 = .ok (.aload_n 0, 1) := by decide +kernel
theorem dL_isCarried_33 : decode cL_isCarried 33 = .ok (.iconst 1, 1) := by decide +kernel
theorem dL_isCarried_34 : decode cL_isCarried 34 = .ok (.iload_n 2, 1) := by decide +kernel
theorem dL_isCarried_35 : decode cL_isCarried 35 = .ok (.isub, 1) := by decide +kernel
theorem dL_isCarried_36 : decode cL_isCarried 36 = .ok (.iload 4, 2) := by decide +kernel
theorem dL_isCarried_38 : decode cL_isCarried 38 = .ok (.invokevirtual 20, 3) := by decide +kernel
theorem dL_isCarried_41 : decode cL_isCarried 41 = .ok (.ifCond .le 5, 3) := by decide +kernel
theorem dL_isCarried_44 : decode cL_isCarried 44 = .ok (.iconst 1, 1) := by decide +kernel
theorem dL_isCarried_45 : decode cL_isCarried 45 = .ok (.ireturn, 1) := by decide +kernel
theorem dL_isCarried_46 : decode cL_isCarried 46 = .ok (.aload_n 0, 1) := by decide +kernel
theorem dL_isCarried_47 : decode cL_isCarried 47 = .ok (.iload_n 2, 1) := by decide +kernel
theorem dL_isCarried_48 : decode cL_isCarried 48 = .ok (.invokevirtual 62, 3) := by decide +kernel
theorem dL_isCarried_51 : decode cL_isCarried 51 = .ok (.istore 5, 2) := by decide +kernel
theorem dL_isCarried_53 : decode cL_isCarried 53 = .ok (.aload_n 0, 1) := by decide +kernel
theorem dL_isCarried_54 : decode cL_isCarried 54 = .ok (.iload_n 2, 1) := by decide +kernel
theorem dL_isCarried_55 : decode cL_isCarried 55 = .ok (.iload 4, 2) := by decide +kernel
theorem dL_isCarried_57 : decode cL_isCarried 57 = .ok (.invokevirtual 20, 3) := by decide +kernel
theorem dL_isCarried_60 : decode cL_isCarried 60 = .ok (.istore 6, 2) := by decide +kernel
theorem dL_isCarried_62 : decode cL_isCarried 62 = .ok (.aload_n 0, 1) := by decide +kernel
theorem dL_isCarried_63 : decode cL_isCarried 63 = .ok (.iload_n 2, 1) := by decide +kernel
theorem dL_isCarried_64 : decode cL_isCarried 64 = .ok (.iload_n 3, 1) := by decide +kernel
theorem dL_isCarried_65 : decode cL_isCarried 65 = .ok (.iload 4, 2) := by decide +kernel
theorem dL_isCarried_67 : decode cL_isCarried 67 = .ok (.invokevirtual 109, 3) := by decide +kernel
theorem dL_isCarried_70 : decode cL_isCarried 70 = .ok (.iload 5, 2) := by decide +kernel
theorem dL_isCarried_72 : decode cL_isCarried 72 = .ok (.iload_n 2, 1) := by decide +kernel
theorem dL_isCarried_73 : decode cL_isCarried 73 = .ok (.iload_n 3, 1) := by decide +kernel
theorem dL_isCarried_74 : decode cL_isCarried 74 = .ok (.invokestatic 8, 3) := by decide +kernel
theorem dL_isCarried_77 : decode cL_isCarried 77 = .ok (.isub, 1) := by decide +kernel
theorem dL_isCarried_78 : decode cL_isCarried 78 = .ok (.iload_n 2, 1) := by decide +kernel
theorem dL_isCarried_79 : decode cL_isCarried 79 = .ok (.iload 4, 2) := by decide +kernel
theorem dL_isCarried_81 : decode cL_isCarried 81 = .ok (.invokestatic 8, 3) := by decide +kernel
theorem dL_isCarried_84 : decode cL_isCarried 84 = .ok (.iadd, 1) := by decide +kernel
theorem dL_isCarried_85 : decode cL_isCarried 85 = .ok (.if_icmp .ne 37, 3) := by decide +kernel
theorem dL_isCarried_88 : decode cL_isCarried 88 = .ok (.iload_n 3, 1) := by decide +kernel
theorem dL_isCarried_89 : decode cL_isCarried 89 = .ok (.iload 4, 2) := by decide +kernel
theorem dL_isCarried_91 : decode cL_isCarried 91 = .ok (.if_icmp .eq 17, 3) := by decide +kernel
theorem dL_isCarried_94 : decode cL_isCarried 94 = .ok (.aload_n 0, 1) := by decide +kernel
theorem dL_isCarried_95 : decode cL_isCarried 95 = .ok (.iload_n 2, 1) := by decide +kernel
theorem dL_isCarried_96 : decode cL_isCarried 96 = .ok (.iload 4, 2) := by decide +kernel
theorem dL_isCarried_98 : decode cL_isCarried 98 = .ok (.invokevirtual 20, 3) := by decide +kernel
theorem dL_isCarried_101 : decode cL_isCarried 101 = .ok (.iload 6, 2) := by decide +kernel
theorem dL_isCarried_103 : decode cL_isCarried 103 = .ok (.iconst 1, 1) := by decide +kernel
theorem dL_isCarried_104 : decode cL_isCarried 104 = .ok (.iadd, 1) := by decide +kernel
theorem dL_isCarried_105 : decode cL_isCarried 105 = .ok (.if_icmp .ne 17, 3) := by decide +kernel
theorem dL_isCarried_108 : decode cL_isCarried 108 = .ok (.aload_n 0, 1) := by decide +kernel
theorem dL_isCarried_109 : decode cL_isCarried 109 = .ok (.iload_n 2, 1) := by decide +kernel
theorem dL_isCarried_110 : decode cL_isCarried 110 = .ok (.iload 4, 2) := by decide +kernel
theorem dL_isCarried_112 : decode cL_isCarried 112 = .ok (.invokevirtual 20, 3) := by decide +kernel
theorem dL_isCarried_115 : decode cL_isCarried 115 = .ok (.ifCond .le 7, 3) := by decide +kernel
theorem dL_isCarried_118 : decode cL_isCarried 118 = .ok (.iconst 1, 1) := by decide +kernel
theorem dL_isCarried_119 : decode cL_isCarried 119 = .ok (.goto 4, 3) := by decide +kernel
theorem dL_isCarried_122 : decode cL_isCarried 122 = .ok (.iconst 0, 1) := by decide +kernel
theorem dL_isCarried_123 : decode cL_isCarried 123 = .ok (.ireturn, 1) := by decide +kernel
theorem dL_does_0 : decode cL_does 0 = .ok (.aload_n 0, 1) := by decide +kernel
theorem dL_does_1 : decode cL_does 1 = .ok (.invokevirtual 73, 3) := by decide +kernel
theorem dL_does_4 : decode cL_does 4 = .ok (.tableswitch 139 0 2 #[28, 77, 137], 28) := by decide +kernel
theorem dL_does_32 : decode cL_does 32 = .ok (.iload_n 1, 1) := by decide +kernel
theorem dL_does_33 : decode cL_does 33 = .ok (.bipush 15, 2) := by decide +kernel
theorem dL_does_35 : decode cL_does 35 = .ok (.iand, 1) := by decide +kernel
theorem dL_does_36 : decode cL_does 36 = .ok (.iconst 2, 1) := by decide +kernel
theorem dL_does_37 : decode cL_does 37 = .ok (.if_icmp .ge 11, 3) := by decide +kernel
theorem dL_does_40 : decode cL_does 40 = .ok (.aload_n 0, 1) := by decide +kernel
theorem dL_does_41 : decode cL_does 41 = .ok (.iload_n 2, 1) := by decide +kernel
theorem dL_does_42 : decode cL_does 42 = .ok (.invokestatic 112, 3) := by decide +kernel
theorem dL_does_45 : decode cL_does 45 = .ok (.goto 35, 3) := by decide +kernel
theorem dL_does_48 : decode cL_does 48 = .ok (.iload_n 1, 1) := by decide +kernel
theorem dL_does_49 : decode cL_does 49 = .ok (.bipush 15, 2) := by decide +kernel
theorem dL_does_51 : decode cL_does 51 = .ok (.iand, 1) := by decide +kernel
theorem dL_does_52 : decode cL_does 52 = .ok (.iconst 2, 1) := by decide +kernel
theorem dL_does_53 : decode cL_does 53 = .ok (.if_icmp .ne 22, 3) := by decide +kernel
theorem dL_does_56 : decode cL_does 56 = .ok (.aload_n 0, 1) := by decide +kernel
theorem dL_does_57 : decode cL_does 57 = .ok (.iload_n 2, 1) := by decide +kernel
theorem dL_does_58 : decode cL_does 58 = .ok (.bipush 7, 2) := by decide +kernel
theorem dL_does_60 : decode cL_does 60 = .ok (.iand, 1) := by decide +kernel
theorem dL_does_61 : decode cL_does 61 = .ok (.ifCond .le 7, 3) := by decide +kernel
theorem dL_does_64 : decode cL_does 64 = .ok (.iconst 1, 1) := by decide +kernel
theorem dL_does_65 : decode cL_does 65 = .ok (.goto 4, 3) := by decide +kernel
theorem dL_does_68 : decode cL_does 68 = .ok (.iconst 0, 1) := by decide +kernel
theorem dL_does_69 : decode cL_does 69 = .ok (.invokestatic 116, 3) := by decide +kernel
theorem dL_does_72 : decode cL_does 72 = .ok (.goto 8, 3) := by decide +kernel
theorem dL_does_75 : decode cL_does 75 = .ok (.aload_n 0, 1) := by decide +kernel
theorem dL_does_76 : decode cL_does 76 = .ok (.iload_n 2, 1) := by decide +kernel
theorem dL_does_77 : decode cL_does 77 = .ok (.invokestatic 120, 3) := by decide +kernel
theorem dL_does_80 : decode cL_does 80 = .ok (.ireturn, 1) := by decide +kernel
theorem dL_does_81 : decode cL_does 81 = .ok (.aload_n 0, 1) := by decide +kernel
theorem dL_does_82 : decode cL_does 82 = .ok (.invokevirtual 43, 3) := by decide +kernel
theorem dL_does_85 : decode cL_does 85 = .ok (.istore_n 3, 1) := by decide +kernel
theorem dL_does_86 : decode cL_does 86 = .ok (.aload_n 0, 1) := by decide +kernel
theorem dL_does_87 : decode cL_does 87 = .ok (.invokevirtual 33, 3) := by decide +kernel
theorem dL_does_90 : decode cL_does 90 = .ok (.ifCond .le 11, 3) := by decide +kernel
theorem dL_does_93 : decode cL_does 93 = .ok (.aload_n 0, 1) := by decide +kernel
theorem dL_does_94 : decode cL_does 94 = .ok (.iload_n 2, 1) := by decide +kernel
theorem dL_does_95 : decode cL_does 95 = .ok (.invokestatic 123, 3) := by decide +kernel
theorem dL_does_98 : decode cL_does 98 = .ok (.goto 42, 3) := by decide +kernel
theorem dL_does_101 : decode cL_does 101 = .ok (.aload_n 0, 1) := by decide +kernel
theorem dL_does_102 : decode cL_does 102 = .ok (.invokevirtual 126, 3) := by decide +kernel
theorem dL_does_105 : decode cL_does 105 = .ok (.iconst 1, 1) := by decide +kernel
theorem dL_does_106 : decode cL_does 106 = .ok (.iload_n 3, 1) := by decide +kernel
theorem dL_does_107 : decode cL_does 107 = .ok (.isub, 1) := by decide +kernel
theorem dL_does_108 : decode cL_does 108 = .ok (.if_icmp .ne 31, 3) := by decide +kernel
theorem dL_does_111 : decode cL_does 111 = .ok (.aload_n 0, 1) := by decide +kernel
theorem dL_does_112 : decode cL_does 112 = .ok (.invokevirtual 43, 3) := by decide +kernel
theorem dL_does_115 : decode cL_does 115 = .ok (.iconst 1, 1) := by decide +kernel
theorem dL_does_116 : decode cL_does 116 = .ok (.iload_n 3, 1) := by decide +kernel
theorem dL_does_117 : decode cL_does 117 = .ok (.isub, 1) := by decide +kernel
theorem dL_does_118 : decode cL_does 118 = .ok (.if_icmp .ne 21, 3) := by decide +kernel
theorem dL_does_121 : decode cL_does 121 = .ok (.aload_n 0, 1) := by decide +kernel
theorem dL_does_122 : decode cL_does 122 = .ok (.invokevirtual 73, 3) := by decide +kernel
theorem dL_does_125 : decode cL_does 125 = .ok (.ifCond .ne 14, 3) := by decide +kernel
theorem dL_does_128 : decode cL_does 128 = .ok (.aload_n 0, 1) := by decide +kernel
theorem dL_does_129 : decode cL_does 129 = .ok (.invokevirtual 50, 3) := by decide +kernel
theorem dL_does_132 : decode cL_does 132 = .ok (.ifCond .ne 7, 3) := by decide +kernel
theorem dL_does_135 : decode cL_does 135 = .ok (.iconst 1, 1) := by decide +kernel
theorem dL_does_136 : decode cL_does 136 = .ok (.goto 4, 3) := by decide +kernel
theorem dL_does_139 : decode cL_does 139 = .ok (.iconst 0, 1) := by decide +kernel
theorem dL_does_140 : decode cL_does 140 = .ok (.ireturn, 1) := by decide +kernel
theorem dL_does_141 : decode cL_does 141 = .ok (.iconst 0, 1) := by decide +kernel
theorem dL_does_142 : decode cL_does 142 = .ok (.ireturn, 1) := by decide +kernel
theorem dL_does_143 : decode cL_does 143 = .ok (.aload_n 0, 1) := by decide +kernel
theorem dL_does_144 : decode cL_does 144 = .ok (.invokestatic 129, 3) := by decide +kernel
theorem dL_does_147 : decode cL_does 147 = .ok (.ireturn, 1) := by decide +kernel
theorem dL_isPlayerSo_0 : decode cL_isPlayerSo 0 = .ok (.aload_n 0, 1) := by decide +kernel
theorem dL_isPlayerSo_1 : decode cL_isPlayerSo 1 = .ok (.iload_n 1, 1) := by decide +kernel
theorem dL_isPlayerSo_2 : decode cL_isPlayerSo 2 = .ok (.invokevirtual 14, 3) := by decide +kernel
theorem dL_isPlayerSo_5 : decode cL_isPlayerSo 5 = .ok (.aload_n 0, 1) := by decide +kernel
theorem dL_isPlayerSo_6 : decode cL_isPlayerSo 6 = .ok (.iload_n 1, 1) := by decide +kernel
theorem dL_isPlayerSo_7 : decode cL_isPlayerSo 7 = .ok (.invokevirtual 56, 3) := by decide +kernel
theorem dL_isPlayerSo_10 : decode cL_isPlayerSo 10 = .ok (.iadd, 1) := by decide +kernel
theorem dL_isPlayerSo_11 : decode cL_isPlayerSo 11 = .ok (.istore_n 2, 1) := by decide +kernel
theorem dL_isPlayerSo_12 : decode cL_isPlayerSo 12 = .ok (.bipush 17, 2) := by decide +kernel
theorem dL_isPlayerSo_14 : decode cL_isPlayerSo 14 = .ok (.aload_n 0, 1) := by decide +kernel
theorem dL_isPlayerSo_15 : decode cL_isPlayerSo 15 = .ok (.iload_n 1, 1) := by decide +kernel
theorem dL_isPlayerSo_16 : decode cL_isPlayerSo 16 = .ok (.invokevirtual 14, 3) := by decide +kernel
theorem dL_isPlayerSo_19 : decode cL_isPlayerSo 19 = .ok (.imul, 1) := by decide +kernel
theorem dL_isPlayerSo_20 : decode cL_isPlayerSo 20 = .ok (.istore_n 3, 1) := by decide +kernel
theorem dL_isPlayerSo_21 : decode cL_isPlayerSo 21 = .ok (.iconst 0, 1) := by decide +kernel
theorem dL_isPlayerSo_22 : decode cL_isPlayerSo 22 = .ok (.istore 4, 2) := by decide +kernel
theorem dL_isPlayerSo_24 : decode cL_isPlayerSo 24 = .ok (.iconst 0, 1) := by decide +kernel
theorem dL_isPlayerSo_25 : decode cL_isPlayerSo 25 = .ok (.istore 5, 2) := by decide +kernel
theorem dL_isPlayerSo_27 : decode cL_isPlayerSo 27 = .ok (.iconst 0, 1) := by decide +kernel
theorem dL_isPlayerSo_28 : decode cL_isPlayerSo 28 = .ok (.istore 6, 2) := by decide +kernel
theorem dL_isPlayerSo_30 : decode cL_isPlayerSo 30 = .ok (.iconst 1, 1) := by decide +kernel
theorem dL_isPlayerSo_31 : decode cL_isPlayerSo 31 = .ok (.istore 7, 2) := by decide +kernel
theorem dL_isPlayerSo_33 : decode cL_isPlayerSo 33 = .ok (.iconst 0, 1) := by decide +kernel
theorem dL_isPlayerSo_34 : decode cL_isPlayerSo 34 = .ok (.istore 8, 2) := by decide +kernel
theorem dL_isPlayerSo_36 : decode cL_isPlayerSo 36 = .ok (.iload 8, 2) := by decide +kernel
theorem dL_isPlayerSo_38 : decode cL_isPlayerSo 38 = .ok (.bipush 16, 2) := by decide +kernel
theorem dL_isPlayerSo_40 : decode cL_isPlayerSo 40 = .ok (.if_icmp .ge 112, 3) := by decide +kernel
theorem dL_isPlayerSo_43 : decode cL_isPlayerSo 43 = .ok (.aload_n 0, 1) := by decide +kernel
theorem dL_isPlayerSo_44 : decode cL_isPlayerSo 44 = .ok (.iload_n 1, 1) := by decide +kernel
theorem dL_isPlayerSo_45 : decode cL_isPlayerSo 45 = .ok (.iload 8, 2) := by decide +kernel
theorem dL_isPlayerSo_47 : decode cL_isPlayerSo 47 = .ok (.invokevirtual 20, 3) := by decide +kernel
theorem dL_isPlayerSo_50 : decode cL_isPlayerSo 50 = .ok (.istore 9, 2) := by decide +kernel
theorem dL_isPlayerSo_52 : decode cL_isPlayerSo 52 = .ok (.iload_n 2, 1) := by decide +kernel
theorem dL_isPlayerSo_53 : decode cL_isPlayerSo 53 = .ok (.iload 9, 2) := by decide +kernel
theorem dL_isPlayerSo_55 : decode cL_isPlayerSo 55 = .ok (.iadd, 1) := by decide +kernel
theorem dL_isPlayerSo_56 : decode cL_isPlayerSo 56 = .ok (.istore_n 2, 1) := by decide +kernel
theorem dL_isPlayerSo_57 : decode cL_isPlayerSo 57 = .ok (.iload_n 3, 1) := by decide +kernel
theorem dL_isPlayerSo_58 : decode cL_isPlayerSo 58 = .ok (.iload 9, 2) := by decide +kernel
theorem dL_isPlayerSo_60 : decode cL_isPlayerSo 60 = .ok (.iload_n 1, 1) := by decide +kernel
theorem dL_isPlayerSo_61 : decode cL_isPlayerSo 61 = .ok (.iload 8, 2) := by decide +kernel
theorem dL_isPlayerSo_63 : decode cL_isPlayerSo 63 = .ok (.invokestatic 8, 3) := by decide +kernel
theorem dL_isPlayerSo_66 : decode cL_isPlayerSo 66 = .ok (.imul, 1) := by decide +kernel
theorem dL_isPlayerSo_67 : decode cL_isPlayerSo 67 = .ok (.iadd, 1) := by decide +kernel
theorem dL_isPlayerSo_68 : decode cL_isPlayerSo 68 = .ok (.istore_n 3, 1) := by decide +kernel
theorem dL_isPlayerSo_69 : decode cL_isPlayerSo 69 = .ok (.iload 4, 2) := by decide +kernel
theorem dL_isPlayerSo_71 : decode cL_isPlayerSo 71 = .ok (.iload 9, 2) := by decide +kernel
theorem dL_isPlayerSo_73 : decode cL_isPlayerSo 73 = .ok (.iconst 1, 1) := by decide +kernel
theorem dL_isPlayerSo_74 : decode cL_isPlayerSo 74 = .ok (.if_icmp .ne 7, 3) := by decide +kernel
theorem dL_isPlayerSo_77 : decode cL_isPlayerSo 77 = .ok (.iconst 1, 1) := by decide +kernel
theorem dL_isPlayerSo_78 : decode cL_isPlayerSo 78 = .ok (.goto 4, 3) := by decide +kernel
theorem dL_isPlayerSo_81 : decode cL_isPlayerSo 81 = .ok (.iconst 0, 1) := by decide +kernel
theorem dL_isPlayerSo_82 : decode cL_isPlayerSo 82 = .ok (.iadd, 1) := by decide +kernel
theorem dL_isPlayerSo_83 : decode cL_isPlayerSo 83 = .ok (.istore 4, 2) := by decide +kernel
theorem dL_isPlayerSo_85 : decode cL_isPlayerSo 85 = .ok (.iload 9, 2) := by decide +kernel
theorem dL_isPlayerSo_87 : decode cL_isPlayerSo 87 = .ok (.iconst 1, 1) := by decide +kernel
theorem dL_isPlayerSo_88 : decode cL_isPlayerSo 88 = .ok (.if_icmp .le 10, 3) := by decide +kernel
theorem dL_isPlayerSo_91 : decode cL_isPlayerSo 91 = .ok (.iload 6, 2) := by decide +kernel
theorem dL_isPlayerSo_93 : decode cL_isPlayerSo 93 = .ok (.iconst 1, 1) := by decide +kernel
theorem dL_isPlayerSo_94 : decode cL_isPlayerSo 94 = .ok (.iadd, 1) := by decide +kernel
theorem dL_isPlayerSo_95 : decode cL_isPlayerSo 95 = .ok (.goto 4, 3) := by decide +kernel
theorem dL_isPlayerSo_98 : decode cL_isPlayerSo 98 = .ok (.iconst 0, 1) := by decide +kernel
theorem dL_isPlayerSo_99 : decode cL_isPlayerSo 99 = .ok (.istore 6, 2) := by decide +kernel
theorem dL_isPlayerSo_101 : decode cL_isPlayerSo 101 = .ok (.iload 6, 2) := by decide +kernel
theorem dL_isPlayerSo_103 : decode cL_isPlayerSo 103 = .ok (.iload 5, 2) := by decide +kernel
theorem dL_isPlayerSo_105 : decode cL_isPlayerSo 105 = .ok (.if_icmp .le 8, 3) := by decide +kernel
theorem dL_isPlayerSo_108 : decode cL_isPlayerSo 108 = .ok (.iload 6, 2) := by decide +kernel
theorem dL_isPlayerSo_110 : decode cL_isPlayerSo 110 = .ok (.goto 5, 3) := by decide +kernel
theorem dL_isPlayerSo_113 : decode cL_isPlayerSo 113 = .ok (.iload 5, 2) := by decide +kernel
theorem dL_isPlayerSo_115 : decode cL_isPlayerSo 115 = .ok (.istore 5, 2) := by decide +kernel
theorem dL_isPlayerSo_117 : decode cL_isPlayerSo 117 = .ok (.iload 7, 2) := by decide +kernel
theorem dL_isPlayerSo_119 : decode cL_isPlayerSo 119 = .ok (.ifCond .eq 24, 3) := by decide +kernel
theorem dL_isPlayerSo_122 : decode cL_isPlayerSo 122 = .ok (.iload 9, 2) := by decide +kernel
theorem dL_isPlayerSo_124 : decode cL_isPlayerSo 124 = .ok (.ifCond .eq 15, 3) := by decide +kernel
theorem dL_isPlayerSo_127 : decode cL_isPlayerSo 127 = .ok (.aload_n 0, 1) := by decide +kernel
theorem dL_isPlayerSo_128 : decode cL_isPlayerSo 128 = .ok (.iconst 1, 1) := by decide +kernel
theorem dL_isPlayerSo_129 : decode cL_isPlayerSo 129 = .ok (.iload_n 1, 1) := by decide +kernel
theorem dL_isPlayerSo_130 : decode cL_isPlayerSo 130 = .ok (.isub, 1) := by decide +kernel
theorem dL_isPlayerSo_131 : decode cL_isPlayerSo 131 = .ok (.iload 8, 2) := by decide +kernel
theorem dL_isPlayerSo_133 : decode cL_isPlayerSo 133 = .ok (.invokevirtual 20, 3) := by decide +kernel
theorem dL_isPlayerSo_136 : decode cL_isPlayerSo 136 = .ok (.ifCond .ne 7, 3) := by decide +kernel
theorem dL_isPlayerSo_139 : decode cL_isPlayerSo 139 = .ok (.iconst 1, 1) := by decide +kernel
theorem dL_isPlayerSo_140 : decode cL_isPlayerSo 140 = .ok (.goto 4, 3) := by decide +kernel
theorem dL_isPlayerSo_143 : decode cL_isPlayerSo 143 = .ok (.iconst 0, 1) := by decide +kernel
theorem dL_isPlayerSo_144 : decode cL_isPlayerSo 144 = .ok (.istore 7, 2) := by decide +kernel
theorem dL_isPlayerSo_146 : decode cL_isPlayerSo 146 = .ok (.iinc 8 1, 3) := by decide +kernel
theorem dL_isPlayerSo_149 : decode cL_isPlayerSo 149 = .ok (.goto (-113), 3) := by decide +kernel
theorem dL_isPlayerSo_152 : decode cL_isPlayerSo 152 = .ok (.iconst 0, 1) := by decide +kernel
theorem dL_isPlayerSo_153 : decode cL_isPlayerSo 153 = .ok (.istore 8, 2) := by decide +kernel
theorem dL_isPlayerSo_155 : decode cL_isPlayerSo 155 = .ok (.iconst 1, 1) := by decide +kernel
theorem dL_isPlayerSo_156 : decode cL_isPlayerSo 156 = .ok (.istore 9, 2) := by decide +kernel
theorem dL_isPlayerSo_158 : decode cL_isPlayerSo 158 = .ok (.iload 9, 2) := by decide +kernel
theorem dL_isPlayerSo_160 : decode cL_isPlayerSo 160 = .ok (.bipush 7, 2) := by decide +kernel
theorem dL_isPlayerSo_162 : decode cL_isPlayerSo 162 = .ok (.if_icmp .ge 37, 3) := by decide +kernel
theorem dL_isPlayerSo_165 : decode cL_isPlayerSo 165 = .ok (.iload 8, 2) := by decide +kernel
theorem dL_isPlayerSo_167 : decode cL_isPlayerSo 167 = .ok (.aload_n 0, 1) := by decide +kernel
theorem dL_isPlayerSo_168 : decode cL_isPlayerSo 168 = .ok (.iconst 1, 1) := by decide +kernel
theorem dL_isPlayerSo_169 : decode cL_isPlayerSo 169 = .ok (.iload_n 1, 1) := by decide +kernel
theorem dL_isPlayerSo_170 : decode cL_isPlayerSo 170 = .ok (.isub, 1) := by decide +kernel
theorem dL_isPlayerSo_171 : decode cL_isPlayerSo 171 = .ok (.iload_n 1, 1) := by decide +kernel
theorem dL_isPlayerSo_172 : decode cL_isPlayerSo 172 = .ok (.iconst (-1), 1) := by decide +kernel
theorem dL_isPlayerSo_173 : decode cL_isPlayerSo 173 = .ok (.iload 9, 2) := by decide +kernel
theorem dL_isPlayerSo_175 : decode cL_isPlayerSo 175 = .ok (.invokestatic 46, 3) := by decide +kernel
theorem dL_isPlayerSo_178 : decode cL_isPlayerSo 178 = .ok (.invokevirtual 20, 3) := by decide +kernel
theorem dL_isPlayerSo_181 : decode cL_isPlayerSo 181 = .ok (.iconst 1, 1) := by decide +kernel
theorem dL_isPlayerSo_182 : decode cL_isPlayerSo 182 = .ok (.if_icmp .le 7, 3) := by decide +kernel
theorem dL_isPlayerSo_185 : decode cL_isPlayerSo 185 = .ok (.iconst 1, 1) := by decide +kernel
theorem dL_isPlayerSo_186 : decode cL_isPlayerSo 186 = .ok (.goto 4, 3) := by decide +kernel
theorem dL_isPlayerSo_189 : decode cL_isPlayerSo 189 = .ok (.iconst 0, 1) := by decide +kernel
theorem dL_isPlayerSo_190 : decode cL_isPlayerSo 190 = .ok (.iadd, 1) := by decide +kernel
theorem dL_isPlayerSo_191 : decode cL_isPlayerSo 191 = .ok (.istore 8, 2) := by decide +kernel
theorem dL_isPlayerSo_193 : decode cL_isPlayerSo 193 = .ok (.iinc 9 1, 3) := by decide +kernel
theorem dL_isPlayerSo_196 : decode cL_isPlayerSo 196 = .ok (.goto (-38), 3) := by decide +kernel
theorem dL_isPlayerSo_199 : decode cL_isPlayerSo 199 = .ok (.iload 7, 2) := by decide +kernel
theorem dL_isPlayerSo_201 : decode cL_isPlayerSo 201 = .ok (.ifCond .eq 58, 3) := by decide +kernel
theorem dL_isPlayerSo_204 : decode cL_isPlayerSo 204 = .ok (.iload_n 2, 1) := by decide +kernel
theorem dL_isPlayerSo_205 : decode cL_isPlayerSo 205 = .ok (.bipush 6, 2) := by decide +kernel
theorem dL_isPlayerSo_207 : decode cL_isPlayerSo 207 = .ok (.if_icmp .ne 52, 3) := by decide +kernel
theorem dL_isPlayerSo_210 : decode cL_isPlayerSo 210 = .ok (.aload_n 0, 1) := by decide +kernel
theorem dL_isPlayerSo_211 : decode cL_isPlayerSo 211 = .ok (.iload_n 1, 1) := by decide +kernel
theorem dL_isPlayerSo_212 : decode cL_isPlayerSo 212 = .ok (.invokevirtual 62, 3) := by decide +kernel
theorem dL_isPlayerSo_215 : decode cL_isPlayerSo 215 = .ok (.iload_n 3, 1) := by decide +kernel
theorem dL_isPlayerSo_216 : decode cL_isPlayerSo 216 = .ok (.if_icmp .ne 43, 3) := by decide +kernel
theorem dL_isPlayerSo_219 : decode cL_isPlayerSo 219 = .ok (.aload_n 0, 1) := by decide +kernel
theorem dL_isPlayerSo_220 : decode cL_isPlayerSo 220 = .ok (.iload_n 1, 1) := by decide +kernel
theorem dL_isPlayerSo_221 : decode cL_isPlayerSo 221 = .ok (.invokevirtual 76, 3) := by decide +kernel
theorem dL_isPlayerSo_224 : decode cL_isPlayerSo 224 = .ok (.iload 4, 2) := by decide +kernel
theorem dL_isPlayerSo_226 : decode cL_isPlayerSo 226 = .ok (.if_icmp .ne 33, 3) := by decide +kernel
theorem dL_isPlayerSo_229 : decode cL_isPlayerSo 229 = .ok (.aload_n 0, 1) := by decide +kernel
theorem dL_isPlayerSo_230 : decode cL_isPlayerSo 230 = .ok (.iload_n 1, 1) := by decide +kernel
theorem dL_isPlayerSo_231 : decode cL_isPlayerSo 231 = .ok (.invokevirtual 133, 3) := by decide +kernel
theorem dL_isPlayerSo_234 : decode cL_isPlayerSo 234 = .ok (.iload 5, 2) := by decide +kernel
theorem dL_isPlayerSo_236 : decode cL_isPlayerSo 236 = .ok (.if_icmp .ne 23, 3) := by decide +kernel
theorem dL_isPlayerSo_239 : decode cL_isPlayerSo 239 = .ok (.aload_n 0, 1) := by decide +kernel
theorem dL_isPlayerSo_240 : decode cL_isPlayerSo 240 = .ok (.iload_n 1, 1) := by decide +kernel
theorem dL_isPlayerSo_241 : decode cL_isPlayerSo 241 = .ok (.invokevirtual 136, 3) := by decide +kernel
theorem dL_isPlayerSo_244 : decode cL_isPlayerSo 244 = .ok (.bipush 36, 2) := by decide +kernel
theorem dL_isPlayerSo_246 : decode cL_isPlayerSo 246 = .ok (.iload 8, 2) := by decide +kernel
theorem dL_isPlayerSo_248 : decode cL_isPlayerSo 248 = .ok (.iload 8, 2) := by decide +kernel
theorem dL_isPlayerSo_250 : decode cL_isPlayerSo 250 = .ok (.imul, 1) := by decide +kernel
theorem dL_isPlayerSo_251 : decode cL_isPlayerSo 251 = .ok (.isub, 1) := by decide +kernel
theorem dL_isPlayerSo_252 : decode cL_isPlayerSo 252 = .ok (.if_icmp .ne 7, 3) := by decide +kernel
theorem dL_isPlayerSo_255 : decode cL_isPlayerSo 255 = .ok (.iconst 1, 1) := by decide +kernel
theorem dL_isPlayerSo_256 : decode cL_isPlayerSo 256 = .ok (.goto 4, 3) := by decide +kernel
theorem dL_isPlayerSo_259 : decode cL_isPlayerSo 259 = .ok (.iconst 0, 1) := by decide +kernel
theorem dL_isPlayerSo_260 : decode cL_isPlayerSo 260 = .ok (.ireturn, 1) := by decide +kernel
theorem dL_areLooksSo_0 : decode cL_areLooksSo 0 = .ok (.aload_n 0, 1) := by decide +kernel
theorem dL_areLooksSo_1 : decode cL_areLooksSo 1 = .ok (.iload_n 1, 1) := by decide +kernel
theorem dL_areLooksSo_2 : decode cL_areLooksSo 2 = .ok (.invokevirtual 139, 3) := by decide +kernel
theorem dL_areLooksSo_5 : decode cL_areLooksSo 5 = .ok (.istore_n 2, 1) := by decide +kernel
theorem dL_areLooksSo_6 : decode cL_areLooksSo 6 = .ok (.aload_n 0, 1) := by decide +kernel
theorem dL_areLooksSo_7 : decode cL_areLooksSo 7 = .ok (.iconst 0, 1) := by decide +kernel
theorem dL_areLooksSo_8 : decode cL_areLooksSo 8 = .ok (.iload_n 1, 1) := by decide +kernel
theorem dL_areLooksSo_9 : decode cL_areLooksSo 9 = .ok (.invokevirtual 20, 3) := by decide +kernel
theorem dL_areLooksSo_12 : decode cL_areLooksSo 12 = .ok (.aload_n 0, 1) := by decide +kernel
theorem dL_areLooksSo_13 : decode cL_areLooksSo 13 = .ok (.iconst 1, 1) := by decide +kernel
theorem dL_areLooksSo_14 : decode cL_areLooksSo 14 = .ok (.iload_n 1, 1) := by decide +kernel
theorem dL_areLooksSo_15 : decode cL_areLooksSo 15 = .ok (.invokevirtual 20, 3) := by decide +kernel
theorem dL_areLooksSo_18 : decode cL_areLooksSo 18 = .ok (.iadd, 1) := by decide +kernel
theorem dL_areLooksSo_19 : decode cL_areLooksSo 19 = .ok (.iconst 1, 1) := by decide +kernel
theorem dL_areLooksSo_20 : decode cL_areLooksSo 20 = .ok (.if_icmp .ne 7, 3) := by decide +kernel
theorem dL_areLooksSo_23 : decode cL_areLooksSo 23 = .ok (.iconst 1, 1) := by decide +kernel
theorem dL_areLooksSo_24 : decode cL_areLooksSo 24 = .ok (.goto 4, 3) := by decide +kernel
theorem dL_areLooksSo_27 : decode cL_areLooksSo 27 = .ok (.iconst 0, 1) := by decide +kernel
theorem dL_areLooksSo_28 : decode cL_areLooksSo 28 = .ok (.istore_n 3, 1) := by decide +kernel
theorem dL_areLooksSo_29 : decode cL_areLooksSo 29 = .ok (.aload_n 0, 1) := by decide +kernel
theorem dL_areLooksSo_30 : decode cL_areLooksSo 30 = .ok (.iload_n 1, 1) := by decide +kernel
theorem dL_areLooksSo_31 : decode cL_areLooksSo 31 = .ok (.invokevirtual 142, 3) := by decide +kernel
theorem dL_areLooksSo_34 : decode cL_areLooksSo 34 = .ok (.iload_n 2, 1) := by decide +kernel
theorem dL_areLooksSo_35 : decode cL_areLooksSo 35 = .ok (.if_icmp .ne 58, 3) := by decide +kernel
theorem dL_areLooksSo_38 : decode cL_areLooksSo 38 = .ok (.iload_n 2, 1) := by decide +kernel
theorem dL_areLooksSo_39 : decode cL_areLooksSo 39 = .ok (.ifCond .lt 54, 3) := by decide +kernel
theorem dL_areLooksSo_42 : decode cL_areLooksSo 42 = .ok (.iload_n 2, 1) := by decide +kernel
theorem dL_areLooksSo_43 : decode cL_areLooksSo 43 = .ok (.bipush 36, 2) := by decide +kernel
theorem dL_areLooksSo_45 : decode cL_areLooksSo 45 = .ok (.if_icmp .gt 48, 3) := by decide +kernel
theorem dL_areLooksSo_48 : decode cL_areLooksSo 48 = .ok (.iload_n 3, 1) := by decide +kernel
theorem dL_areLooksSo_49 : decode cL_areLooksSo 49 = .ok (.ifCond .ne 7, 3) := by decide +kernel
theorem dL_areLooksSo_52 : decode cL_areLooksSo 52 = .ok (.iload_n 2, 1) := by decide +kernel
theorem dL_areLooksSo_53 : decode cL_areLooksSo 53 = .ok (.ifCond .ne 40, 3) := by decide +kernel
theorem dL_areLooksSo_56 : decode cL_areLooksSo 56 = .ok (.aload_n 0, 1) := by decide +kernel
theorem dL_areLooksSo_57 : decode cL_areLooksSo 57 = .ok (.invokevirtual 145, 3) := by decide +kernel
theorem dL_areLooksSo_60 : decode cL_areLooksSo 60 = .ok (.aload_n 0, 1) := by decide +kernel
theorem dL_areLooksSo_61 : decode cL_areLooksSo 61 = .ok (.invokevirtual 40, 3) := by decide +kernel
theorem dL_areLooksSo_64 : decode cL_areLooksSo 64 = .ok (.if_icmp .ne 29, 3) := by decide +kernel
theorem dL_areLooksSo_67 : decode cL_areLooksSo 67 = .ok (.aload_n 0, 1) := by decide +kernel
theorem dL_areLooksSo_68 : decode cL_areLooksSo 68 = .ok (.invokevirtual 40, 3) := by decide +kernel
theorem dL_areLooksSo_71 : decode cL_areLooksSo 71 = .ok (.ifCond .le 22, 3) := by decide +kernel
theorem dL_areLooksSo_74 : decode cL_areLooksSo 74 = .ok (.aload_n 0, 1) := by decide +kernel
theorem dL_areLooksSo_75 : decode cL_areLooksSo 75 = .ok (.invokevirtual 33, 3) := by decide +kernel
theorem dL_areLooksSo_78 : decode cL_areLooksSo 78 = .ok (.ifCond .gt 11, 3) := by decide +kernel
theorem dL_areLooksSo_81 : decode cL_areLooksSo 81 = .ok (.aload_n 0, 1) := by decide +kernel
theorem dL_areLooksSo_82 : decode cL_areLooksSo 82 = .ok (.invokevirtual 40, 3) := by decide +kernel
theorem dL_areLooksSo_85 : decode cL_areLooksSo 85 = .ok (.iconst 1, 1) := by decide +kernel
theorem dL_areLooksSo_86 : decode cL_areLooksSo 86 = .ok (.if_icmp .ne 7, 3) := by decide +kernel
theorem dL_areLooksSo_89 : decode cL_areLooksSo 89 = .ok (.iconst 1, 1) := by decide +kernel
theorem dL_areLooksSo_90 : decode cL_areLooksSo 90 = .ok (.goto 4, 3) := by decide +kernel
theorem dL_areLooksSo_93 : decode cL_areLooksSo 93 = .ok (.iconst 0, 1) := by decide +kernel
theorem dL_areLooksSo_94 : decode cL_areLooksSo 94 = .ok (.istore 4, 2) := by decide +kernel
theorem dL_areLooksSo_96 : decode cL_areLooksSo 96 = .ok (.iconst 0, 1) := by decide +kernel
theorem dL_areLooksSo_97 : decode cL_areLooksSo 97 = .ok (.istore 5, 2) := by decide +kernel
theorem dL_areLooksSo_99 : decode cL_areLooksSo 99 = .ok (.iconst 0, 1) := by decide +kernel
theorem dL_areLooksSo_100 : decode cL_areLooksSo 100 = .ok (.istore 6, 2) := by decide +kernel
theorem dL_areLooksSo_102 : decode cL_areLooksSo 102 = .ok (.iload 6, 2) := by decide +kernel
theorem dL_areLooksSo_104 : decode cL_areLooksSo 104 = .ok (.bipush 102, 2) := by decide +kernel
theorem dL_areLooksSo_106 : decode cL_areLooksSo 106 = .ok (.if_icmp .ge 40, 3) := by decide +kernel
theorem dL_areLooksSo_109 : decode cL_areLooksSo 109 = .ok (.iload 5, 2) := by decide +kernel
theorem dL_areLooksSo_111 : decode cL_areLooksSo 111 = .ok (.aload_n 0, 1) := by decide +kernel
theorem dL_areLooksSo_112 : decode cL_areLooksSo 112 = .ok (.iload 6, 2) := by decide +kernel
theorem dL_areLooksSo_114 : decode cL_areLooksSo 114 = .ok (.bipush 17, 2) := by decide +kernel
theorem dL_areLooksSo_116 : decode cL_areLooksSo 116 = .ok (.irem, 1) := by decide +kernel
theorem dL_areLooksSo_117 : decode cL_areLooksSo 117 = .ok (.iconst 1, 1) := by decide +kernel
theorem dL_areLooksSo_118 : decode cL_areLooksSo 118 = .ok (.isub, 1) := by decide +kernel
theorem dL_areLooksSo_119 : decode cL_areLooksSo 119 = .ok (.iconst 1, 1) := by decide +kernel
theorem dL_areLooksSo_120 : decode cL_areLooksSo 120 = .ok (.iload 6, 2) := by decide +kernel
theorem dL_areLooksSo_122 : decode cL_areLooksSo 122 = .ok (.bipush 17, 2) := by decide +kernel
theorem dL_areLooksSo_124 : decode cL_areLooksSo 124 = .ok (.idiv, 1) := by decide +kernel
theorem dL_areLooksSo_125 : decode cL_areLooksSo 125 = .ok (.iadd, 1) := by decide +kernel
theorem dL_areLooksSo_126 : decode cL_areLooksSo 126 = .ok (.invokevirtual 26, 3) := by decide +kernel
theorem dL_areLooksSo_129 : decode cL_areLooksSo 129 = .ok (.ifCond .ne 7, 3) := by decide +kernel
theorem dL_areLooksSo_132 : decode cL_areLooksSo 132 = .ok (.iconst 1, 1) := by decide +kernel
theorem dL_areLooksSo_133 : decode cL_areLooksSo 133 = .ok (.goto 4, 3) := by decide +kernel
theorem dL_areLooksSo_136 : decode cL_areLooksSo 136 = .ok (.iconst 0, 1) := by decide +kernel
theorem dL_areLooksSo_137 : decode cL_areLooksSo 137 = .ok (.iadd, 1) := by decide +kernel
theorem dL_areLooksSo_138 : decode cL_areLooksSo 138 = .ok (.istore 5, 2) := by decide +kernel
theorem dL_areLooksSo_140 : decode cL_areLooksSo 140 = .ok (.iinc 6 1, 3) := by decide +kernel
theorem dL_areLooksSo_143 : decode cL_areLooksSo 143 = .ok (.goto (-41), 3) := by decide +kernel
theorem dL_areLooksSo_146 : decode cL_areLooksSo 146 = .ok (.aload_n 0, 1) := by decide +kernel
theorem dL_areLooksSo_147 : decode cL_areLooksSo 147 = .ok (.iconst 0, 1) := by decide +kernel
theorem dL_areLooksSo_148 : decode cL_areLooksSo 148 = .ok (.invokevirtual 62, 3) := by decide +kernel
theorem dL_areLooksSo_151 : decode cL_areLooksSo 151 = .ok (.aload_n 0, 1) := by decide +kernel
theorem dL_areLooksSo_152 : decode cL_areLooksSo 152 = .ok (.iconst 1, 1) := by decide +kernel
theorem dL_areLooksSo_153 : decode cL_areLooksSo 153 = .ok (.invokevirtual 62, 3) := by decide +kernel
theorem dL_areLooksSo_156 : decode cL_areLooksSo 156 = .ok (.iadd, 1) := by decide +kernel
theorem dL_areLooksSo_157 : decode cL_areLooksSo 157 = .ok (.istore 6, 2) := by decide +kernel
theorem dL_areLooksSo_159 : decode cL_areLooksSo 159 = .ok (.aload_n 0, 1) := by decide +kernel
theorem dL_areLooksSo_160 : decode cL_areLooksSo 160 = .ok (.iconst 1, 1) := by decide +kernel
theorem dL_areLooksSo_161 : decode cL_areLooksSo 161 = .ok (.aload_n 0, 1) := by decide +kernel
theorem dL_areLooksSo_162 : decode cL_areLooksSo 162 = .ok (.invokevirtual 43, 3) := by decide +kernel
theorem dL_areLooksSo_165 : decode cL_areLooksSo 165 = .ok (.isub, 1) := by decide +kernel
theorem dL_areLooksSo_166 : decode cL_areLooksSo 166 = .ok (.invokevirtual 62, 3) := by decide +kernel
theorem dL_areLooksSo_169 : decode cL_areLooksSo 169 = .ok (.istore 7, 2) := by decide +kernel
theorem dL_areLooksSo_171 : decode cL_areLooksSo 171 = .ok (.iload 4, 2) := by decide +kernel
theorem dL_areLooksSo_173 : decode cL_areLooksSo 173 = .ok (.ifCond .eq 56, 3) := by decide +kernel
theorem dL_areLooksSo_176 : decode cL_areLooksSo 176 = .ok (.aload_n 0, 1) := by decide +kernel
theorem dL_areLooksSo_177 : decode cL_areLooksSo 177 = .ok (.invokevirtual 37, 3) := by decide +kernel
theorem dL_areLooksSo_180 : decode cL_areLooksSo 180 = .ok (.iload 5, 2) := by decide +kernel
theorem dL_areLooksSo_182 : decode cL_areLooksSo 182 = .ok (.if_icmp .ne 47, 3) := by decide +kernel
theorem dL_areLooksSo_185 : decode cL_areLooksSo 185 = .ok (.iload 5, 2) := by decide +kernel
theorem dL_areLooksSo_187 : decode cL_areLooksSo 187 = .ok (.ifCond .ne 7, 3) := by decide +kernel
theorem dL_areLooksSo_190 : decode cL_areLooksSo 190 = .ok (.iconst 1, 1) := by decide +kernel
theorem dL_areLooksSo_191 : decode cL_areLooksSo 191 = .ok (.goto 4, 3) := by decide +kernel
theorem dL_areLooksSo_194 : decode cL_areLooksSo 194 = .ok (.iconst 0, 1) := by decide +kernel
theorem dL_areLooksSo_195 : decode cL_areLooksSo 195 = .ok (.aload_n 0, 1) := by decide +kernel
theorem dL_areLooksSo_196 : decode cL_areLooksSo 196 = .ok (.invokevirtual 33, 3) := by decide +kernel
theorem dL_areLooksSo_199 : decode cL_areLooksSo 199 = .ok (.ifCond .ne 7, 3) := by decide +kernel
theorem dL_areLooksSo_202 : decode cL_areLooksSo 202 = .ok (.iconst 1, 1) := by decide +kernel
theorem dL_areLooksSo_203 : decode cL_areLooksSo 203 = .ok (.goto 4, 3) := by decide +kernel
theorem dL_areLooksSo_206 : decode cL_areLooksSo 206 = .ok (.iconst 0, 1) := by decide +kernel
theorem dL_areLooksSo_207 : decode cL_areLooksSo 207 = .ok (.if_icmp .ne 22, 3) := by decide +kernel
theorem dL_areLooksSo_210 : decode cL_areLooksSo 210 = .ok (.aload_n 0, 1) := by decide +kernel
theorem dL_areLooksSo_211 : decode cL_areLooksSo 211 = .ok (.invokevirtual 73, 3) := by decide +kernel
theorem dL_areLooksSo_214 : decode cL_areLooksSo 214 = .ok (.iconst 1, 1) := by decide +kernel
theorem dL_areLooksSo_215 : decode cL_areLooksSo 215 = .ok (.if_icmp .eq 10, 3) := by decide +kernel
theorem dL_areLooksSo_218 : decode cL_areLooksSo 218 = .ok (.aload_n 0, 1) := by decide +kernel
theorem dL_areLooksSo_219 : decode cL_areLooksSo 219 = .ok (.invokevirtual 50, 3) := by decide +kernel
theorem dL_areLooksSo_222 : decode cL_areLooksSo 222 = .ok (.ifCond .ne 7, 3) := by decide +kernel
theorem dL_areLooksSo_225 : decode cL_areLooksSo 225 = .ok (.iconst 1, 1) := by decide +kernel
theorem dL_areLooksSo_226 : decode cL_areLooksSo 226 = .ok (.goto 4, 3) := by decide +kernel
theorem dL_areLooksSo_229 : decode cL_areLooksSo 229 = .ok (.iconst 0, 1) := by decide +kernel
theorem dL_areLooksSo_230 : decode cL_areLooksSo 230 = .ok (.istore 4, 2) := by decide +kernel
theorem dL_areLooksSo_232 : decode cL_areLooksSo 232 = .ok (.iload 4, 2) := by decide +kernel
theorem dL_areLooksSo_234 : decode cL_areLooksSo 234 = .ok (.ifCond .eq 62, 3) := by decide +kernel
theorem dL_areLooksSo_237 : decode cL_areLooksSo 237 = .ok (.iload 6, 2) := by decide +kernel
theorem dL_areLooksSo_239 : decode cL_areLooksSo 239 = .ok (.ifCond .ne 19, 3) := by decide +kernel
theorem dL_areLooksSo_242 : decode cL_areLooksSo 242 = .ok (.aload_n 0, 1) := by decide +kernel
theorem dL_areLooksSo_243 : decode cL_areLooksSo 243 = .ok (.invokevirtual 148, 3) := by decide +kernel
theorem dL_areLooksSo_246 : decode cL_areLooksSo 246 = .ok (.ldc2_w 152, 3) := by decide +kernel
theorem dL_areLooksSo_249 : decode cL_areLooksSo 249 = .ok (.dmul, 1) := by decide +kernel
theorem dL_areLooksSo_250 : decode cL_areLooksSo 250 = .ok (.dconst 1, 1) := by decide +kernel
theorem dL_areLooksSo_251 : decode cL_areLooksSo 251 = .ok (.dcmp .l, 1) := by decide +kernel
theorem dL_areLooksSo_252 : decode cL_areLooksSo 252 = .ok (.ifCond .ne 44, 3) := by decide +kernel
theorem dL_areLooksSo_255 : decode cL_areLooksSo 255 = .ok (.goto 37, 3) := by decide +kernel
theorem dL_areLooksSo_258 : decode cL_areLooksSo 258 = .ok (.aload_n 0, 1) := by decide +kernel
theorem dL_areLooksSo_259 : decode cL_areLooksSo 259 = .ok (.invokevirtual 148, 3) := by decide +kernel
theorem dL_areLooksSo_262 : decode cL_areLooksSo 262 = .ok (.iload 6, 2) := by decide +kernel
theorem dL_areLooksSo_264 : decode cL_areLooksSo 264 = .ok (.i2d, 1) := by decide +kernel
theorem dL_areLooksSo_265 : decode cL_areLooksSo 265 = .ok (.dmul, 1) := by decide +kernel
theorem dL_areLooksSo_266 : decode cL_areLooksSo 266 = .ok (.iload 7, 2) := by decide +kernel
theorem dL_areLooksSo_268 : decode cL_areLooksSo 268 = .ok (.iconst 1, 1) := by decide +kernel
theorem dL_areLooksSo_269 : decode cL_areLooksSo 269 = .ok (.isub, 1) := by decide +kernel
theorem dL_areLooksSo_270 : decode cL_areLooksSo 270 = .ok (.i2d, 1) := by decide +kernel
theorem dL_areLooksSo_271 : decode cL_areLooksSo 271 = .ok (.dcmp .l, 1) := by decide +kernel
theorem dL_areLooksSo_272 : decode cL_areLooksSo 272 = .ok (.ifCond .le 24, 3) := by decide +kernel
theorem dL_areLooksSo_275 : decode cL_areLooksSo 275 = .ok (.aload_n 0, 1) := by decide +kernel
theorem dL_areLooksSo_276 : decode cL_areLooksSo 276 = .ok (.invokevirtual 148, 3) := by decide +kernel
theorem dL_areLooksSo_279 : decode cL_areLooksSo 279 = .ok (.iload 6, 2) := by decide +kernel
theorem dL_areLooksSo_281 : decode cL_areLooksSo 281 = .ok (.i2d, 1) := by decide +kernel
theorem dL_areLooksSo_282 : decode cL_areLooksSo 282 = .ok (.dmul, 1) := by decide +kernel
theorem dL_areLooksSo_283 : decode cL_areLooksSo 283 = .ok (.iload 7, 2) := by decide +kernel
theorem dL_areLooksSo_285 : decode cL_areLooksSo 285 = .ok (.iconst 1, 1) := by decide +kernel
theorem dL_areLooksSo_286 : decode cL_areLooksSo 286 = .ok (.iadd, 1) := by decide +kernel
theorem dL_areLooksSo_287 : decode cL_areLooksSo 287 = .ok (.i2d, 1) := by decide +kernel
theorem dL_areLooksSo_288 : decode cL_areLooksSo 288 = .ok (.dcmp .g, 1) := by decide +kernel
theorem dL_areLooksSo_289 : decode cL_areLooksSo 289 = .ok (.ifCond .ge 7, 3) := by decide +kernel
theorem dL_areLooksSo_292 : decode cL_areLooksSo 292 = .ok (.iconst 1, 1) := by decide +kernel
theorem dL_areLooksSo_293 : decode cL_areLooksSo 293 = .ok (.goto 4, 3) := by decide +kernel
theorem dL_areLooksSo_296 : decode cL_areLooksSo 296 = .ok (.iconst 0, 1) := by decide +kernel
theorem dL_areLooksSo_297 : decode cL_areLooksSo 297 = .ok (.ireturn, 1) := by decide +kernel
theorem dL_law_0 : decode cL_law 0 = .ok (.new 15, 3) := by decide +kernel
theorem dL_law_3 : decode cL_law 3 = .ok (.dup, 1) := by decide +kernel
theorem dL_law_4 : decode cL_law 4 = .ok (.invokespecial 154, 3) := by decide +kernel
theorem dL_law_7 : decode cL_law 7 = .ok (.astore_n 1, 1) := by decide +kernel
theorem dL_law_8 : decode cL_law 8 = .ok (.iconst 0, 1) := by decide +kernel
theorem dL_law_9 : decode cL_law 9 = .ok (.istore_n 2, 1) := by decide +kernel
theorem dL_law_10 : decode cL_law 10 = .ok (.iload_n 2, 1) := by decide +kernel
theorem dL_law_11 : decode cL_law 11 = .ok (.bipush 56, 2) := by decide +kernel
theorem dL_law_13 : decode cL_law 13 = .ok (.if_icmp .ge 77, 3) := by decide +kernel
theorem dL_law_16 : decode cL_law 16 = .ok (.aload_n 0, 1) := by decide +kernel
theorem dL_law_17 : decode cL_law 17 = .ok (.iload_n 2, 1) := by decide +kernel
theorem dL_law_18 : decode cL_law 18 = .ok (.invokestatic 155, 3) := by decide +kernel
theorem dL_law_21 : decode cL_law 21 = .ok (.istore_n 3, 1) := by decide +kernel
theorem dL_law_22 : decode cL_law 22 = .ok (.aload_n 0, 1) := by decide +kernel
theorem dL_law_23 : decode cL_law 23 = .ok (.iload_n 2, 1) := by decide +kernel
theorem dL_law_24 : decode cL_law 24 = .ok (.bipush 9, 2) := by decide +kernel
theorem dL_law_26 : decode cL_law 26 = .ok (.iadd, 1) := by decide +kernel
theorem dL_law_27 : decode cL_law 27 = .ok (.bipush 64, 2) := by decide +kernel
theorem dL_law_29 : decode cL_law 29 = .ok (.irem, 1) := by decide +kernel
theorem dL_law_30 : decode cL_law 30 = .ok (.invokestatic 155, 3) := by decide +kernel
theorem dL_law_33 : decode cL_law 33 = .ok (.istore 4, 2) := by decide +kernel
theorem dL_law_35 : decode cL_law 35 = .ok (.aload_n 1, 1) := by decide +kernel
theorem dL_law_36 : decode cL_law 36 = .ok (.iload_n 3, 1) := by decide +kernel
theorem dL_law_37 : decode cL_law 37 = .ok (.iload 4, 2) := by decide +kernel
theorem dL_law_39 : decode cL_law 39 = .ok (.invokestatic 159, 3) := by decide +kernel
theorem dL_law_42 : decode cL_law 42 = .ok (.ifCond .eq 40, 3) := by decide +kernel
theorem dL_law_45 : decode cL_law 45 = .ok (.aload_n 1, 1) := by decide +kernel
theorem dL_law_46 : decode cL_law 46 = .ok (.iconst 0, 1) := by decide +kernel
theorem dL_law_47 : decode cL_law 47 = .ok (.invokestatic 163, 3) := by decide +kernel
theorem dL_law_50 : decode cL_law 50 = .ok (.ifCond .eq 32, 3) := by decide +kernel
theorem dL_law_53 : decode cL_law 53 = .ok (.aload_n 1, 1) := by decide +kernel
theorem dL_law_54 : decode cL_law 54 = .ok (.iconst 1, 1) := by decide +kernel
theorem dL_law_55 : decode cL_law 55 = .ok (.invokestatic 163, 3) := by decide +kernel
theorem dL_law_58 : decode cL_law 58 = .ok (.ifCond .eq 24, 3) := by decide +kernel
theorem dL_law_61 : decode cL_law 61 = .ok (.iload_n 2, 1) := by decide +kernel
theorem dL_law_62 : decode cL_law 62 = .ok (.iconst 2, 1) := by decide +kernel
theorem dL_law_63 : decode cL_law 63 = .ok (.irem, 1) := by decide +kernel
theorem dL_law_64 : decode cL_law 64 = .ok (.ifCond .ne 20, 3) := by decide +kernel
theorem dL_law_67 : decode cL_law 67 = .ok (.aload_n 1, 1) := by decide +kernel
theorem dL_law_68 : decode cL_law 68 = .ok (.iload_n 3, 1) := by decide +kernel
theorem dL_law_69 : decode cL_law 69 = .ok (.iconst 3, 1) := by decide +kernel
theorem dL_law_70 : decode cL_law 70 = .ok (.ishr, 1) := by decide +kernel
theorem dL_law_71 : decode cL_law 71 = .ok (.bipush 16, 2) := by decide +kernel
theorem dL_law_73 : decode cL_law 73 = .ok (.invokestatic 23, 3) := by decide +kernel
theorem dL_law_76 : decode cL_law 76 = .ok (.invokestatic 166, 3) := by decide +kernel
theorem dL_law_79 : decode cL_law 79 = .ok (.ifCond .ne 5, 3) := by decide +kernel
theorem dL_law_82 : decode cL_law 82 = .ok (.iconst 0, 1) := by decide +kernel
theorem dL_law_83 : decode cL_law 83 = .ok (.ireturn, 1) := by decide +kernel
theorem dL_law_84 : decode cL_law 84 = .ok (.iinc 2 1, 3) := by decide +kernel
theorem dL_law_87 : decode cL_law 87 = .ok (.goto (-77), 3) := by decide +kernel
theorem dL_law_90 : decode cL_law 90 = .ok (.iconst 1, 1) := by decide +kernel
theorem dL_law_91 : decode cL_law 91 = .ok (.ireturn, 1) := by decide +kernel
