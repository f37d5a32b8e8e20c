theorem dX10_isRule_44 : decode cX10_isRule 44 = .ok (.iload_n 1, 1) := by decide +kernel
theorem dX10_isRule_45 : decode cX10_isRule 45 = .ok (.iconst 1, 1) := by decide +kernel
theorem dX10_isRule_46 : decode cX10_isRule 46 = .ok (.bipush 60, 2) := by decide +kernel
theorem dX10_isRule_48 : decode cX10_isRule 48 = .ok (.invokestatic 58, 3) := by decide +kernel
theorem dX10_isRule_51 : decode cX10_isRule 51 = .ok (.ireturn, 1) := by decide +kernel
theorem dX10_isRule_52 : decode cX10_isRule 52 = .ok (.iconst 0, 1) := by decide +kernel
theorem dX10_isRule_53 : decode cX10_isRule 53 = .ok (.ireturn, 1) := by decide +kernel
theorem dX10_rule_0 : decode cX10_rule 0 = .ok (.iload_n 1, 1) := by decide +kernel
theorem dX10_rule_1 : decode cX10_rule 1 = .ok (.iload_n 2, 1) := by decide +kernel
theorem dX10_rule_2 : decode cX10_rule 2 = .ok (.invokestatic 231, 3) := by decide +kernel
theorem dX10_rule_5 : decode cX10_rule 5 = .ok (.ifCond .ne 5, 3) := by decide +kernel
theorem dX10_rule_8 : decode cX10_rule 8 = .ok (.iconst (-1), 1) := by decide +kernel
theorem dX10_rule_9 : decode cX10_rule 9 = .ok (.ireturn, 1) := by decide +kernel
theorem dX10_rule_10 : decode cX10_rule 10 = .ok (.aload_n 0, 1) := by decide +kernel
theorem dX10_rule_11 : decode cX10_rule 11 = .ok (.getfield 7, 3) := by decide +kernel
theorem dX10_rule_14 : decode cX10_rule 14 = .ok (.iload_n 1, 1) := by decide +kernel
theorem dX10_rule_15 : decode cX10_rule 15 = .ok (.iaload, 1) := by decide +kernel
theorem dX10_rule_16 : decode cX10_rule 16 = .ok (.istore_n 3, 1) := by decide +kernel
theorem dX10_rule_17 : decode cX10_rule 17 = .ok (.iload_n 3, 1) := by decide +kernel
theorem dX10_rule_18 : decode cX10_rule 18 = .ok (.iload_n 2, 1) := by decide +kernel
theorem dX10_rule_19 : decode cX10_rule 19 = .ok (.if_icmp .ne 6, 3) := by decide +kernel
theorem dX10_rule_22 : decode cX10_rule 22 = .ok (.bipush (-2), 2) := by decide +kernel
theorem dX10_rule_24 : decode cX10_rule 24 = .ok (.ireturn, 1) := by decide +kernel
theorem dX10_rule_25 : decode cX10_rule 25 = .ok (.aload_n 0, 1) := by decide +kernel
theorem dX10_rule_26 : decode cX10_rule 26 = .ok (.invokevirtual 215, 3) := by decide +kernel
theorem dX10_rule_29 : decode cX10_rule 29 = .ok (.aload_n 0, 1) := by decide +kernel
theorem dX10_rule_30 : decode cX10_rule 30 = .ok (.getfield 7, 3) := by decide +kernel
theorem dX10_rule_33 : decode cX10_rule 33 = .ok (.iload_n 1, 1) := by decide +kernel
theorem dX10_rule_34 : decode cX10_rule 34 = .ok (.iload_n 2, 1) := by decide +kernel
theorem dX10_rule_35 : decode cX10_rule 35 = .ok (.iastore, 1) := by decide +kernel
theorem dX10_rule_36 : decode cX10_rule 36 = .ok (.aload_n 0, 1) := by decide +kernel
theorem dX10_rule_37 : decode cX10_rule 37 = .ok (.getfield 7, 3) := by decide +kernel
theorem dX10_rule_40 : decode cX10_rule 40 = .ok (.bipush 8, 2) := by decide +kernel
theorem dX10_rule_42 : decode cX10_rule 42 = .ok (.iload_n 1, 1) := by decide +kernel
theorem dX10_rule_43 : decode cX10_rule 43 = .ok (.iload_n 3, 1) := by decide +kernel
theorem dX10_rule_44 : decode cX10_rule 44 = .ok (.invokestatic 88, 3) := by decide +kernel
theorem dX10_rule_47 : decode cX10_rule 47 = .ok (.iload_n 3, 1) := by decide +kernel
theorem dX10_rule_48 : decode cX10_rule 48 = .ok (.ireturn, 1) := by decide +kernel
theorem dX10_keep_0 : decode cX10_keep 0 = .ok (.iload_n 1, 1) := by decide +kernel
theorem dX10_keep_1 : decode cX10_keep 1 = .ok (.iconst 0, 1) := by decide +kernel
theorem dX10_keep_2 : decode cX10_keep 2 = .ok (.iconst 1, 1) := by decide +kernel
theorem dX10_keep_3 : decode cX10_keep 3 = .ok (.invokestatic 58, 3) := by decide +kernel
theorem dX10_keep_6 : decode cX10_keep 6 = .ok (.ifCond .ne 5, 3) := by decide +kernel
theorem dX10_keep_9 : decode cX10_keep 9 = .ok (.iconst (-1), 1) := by decide +kernel
theorem dX10_keep_10 : decode cX10_keep 10 = .ok (.ireturn, 1) := by decide +kernel
theorem dX10_keep_11 : decode cX10_keep 11 = .ok (.aload_n 0, 1) := by decide +kernel
theorem dX10_keep_12 : decode cX10_keep 12 = .ok (.getfield 7, 3) := by decide +kernel
theorem dX10_keep_15 : decode cX10_keep 15 = .ok (.iconst 0, 1) := by decide +kernel
theorem dX10_keep_16 : decode cX10_keep 16 = .ok (.aload_n 0, 1) := by decide +kernel
theorem dX10_keep_17 : decode cX10_keep 17 = .ok (.getfield 22, 3) := by decide +kernel
theorem dX10_keep_20 : decode cX10_keep 20 = .ok (.sipush 336, 3) := by decide +kernel
theorem dX10_keep_23 : decode cX10_keep 23 = .ok (.iload_n 1, 1) := by decide +kernel
theorem dX10_keep_24 : decode cX10_keep 24 = .ok (.imul, 1) := by decide +kernel
theorem dX10_keep_25 : decode cX10_keep 25 = .ok (.invokestatic 50, 3) := by decide +kernel
theorem dX10_keep_28 : decode cX10_keep 28 = .ok (.aload_n 0, 1) := by decide +kernel
theorem dX10_keep_29 : decode cX10_keep 29 = .ok (.getfield 25, 3) := by decide +kernel
theorem dX10_keep_32 : decode cX10_keep 32 = .ok (.iload_n 1, 1) := by decide +kernel
theorem dX10_keep_33 : decode cX10_keep 33 = .ok (.iconst 1, 1) := by decide +kernel
theorem dX10_keep_34 : decode cX10_keep 34 = .ok (.bastore, 1) := by decide +kernel
theorem dX10_keep_35 : decode cX10_keep 35 = .ok (.aload_n 0, 1) := by decide +kernel
theorem dX10_keep_36 : decode cX10_keep 36 = .ok (.getfield 7, 3) := by decide +kernel
theorem dX10_keep_39 : decode cX10_keep 39 = .ok (.iconst 3, 1) := by decide +kernel
theorem dX10_keep_40 : decode cX10_keep 40 = .ok (.iaload, 1) := by decide +kernel
theorem dX10_keep_41 : decode cX10_keep 41 = .ok (.ireturn, 1) := by decide +kernel
theorem dX10_restore_0 : decode cX10_restore 0 = .ok (.iload_n 1, 1) := by decide +kernel
theorem dX10_restore_1 : decode cX10_restore 1 = .ok (.iconst 0, 1) := by decide +kernel
theorem dX10_restore_2 : decode cX10_restore 2 = .ok (.iconst 1, 1) := by decide +kernel
theorem dX10_restore_3 : decode cX10_restore 3 = .ok (.invokestatic 58, 3) := by decide +kernel
theorem dX10_restore_6 : decode cX10_restore 6 = .ok (.ifCond .ne 5, 3) := by decide +kernel
theorem dX10_restore_9 : decode cX10_restore 9 = .ok (.iconst (-1), 1) := by decide +kernel
theorem dX10_restore_10 : decode cX10_restore 10 = .ok (.ireturn, 1) := by decide +kernel
theorem dX10_restore_11 : decode cX10_restore 11 = .ok (.aload_n 0, 1) := by decide +kernel
theorem dX10_restore_12 : decode cX10_restore 12 = .ok (.getfield 25, 3) := by decide +kernel
theorem dX10_restore_15 : decode cX10_restore 15 = .ok (.iload_n 1, 1) := by decide +kernel
theorem dX10_restore_16 : decode cX10_restore 16 = .ok (.baload, 1) := by decide +kernel
theorem dX10_restore_17 : decode cX10_restore 17 = .ok (.ifCond .ne 6, 3) := by decide +kernel
theorem dX10_restore_20 : decode cX10_restore 20 = .ok (.bipush (-2), 2) := by decide +kernel
theorem dX10_restore_22 : decode cX10_restore 22 = .ok (.ireturn, 1) := by decide +kernel
theorem dX10_restore_23 : decode cX10_restore 23 = .ok (.aload_n 0, 1) := by decide +kernel
theorem dX10_restore_24 : decode cX10_restore 24 = .ok (.invokevirtual 215, 3) := by decide +kernel
theorem dX10_restore_27 : decode cX10_restore 27 = .ok (.aload_n 0, 1) := by decide +kernel
theorem dX10_restore_28 : decode cX10_restore 28 = .ok (.getfield 22, 3) := by decide +kernel
theorem dX10_restore_31 : decode cX10_restore 31 = .ok (.sipush 336, 3) := by decide +kernel
theorem dX10_restore_34 : decode cX10_restore 34 = .ok (.iload_n 1, 1) := by decide +kernel
theorem dX10_restore_35 : decode cX10_restore 35 = .ok (.imul, 1) := by decide +kernel
theorem dX10_restore_36 : decode cX10_restore 36 = .ok (.aload_n 0, 1) := by decide +kernel
theorem dX10_restore_37 : decode cX10_restore 37 = .ok (.getfield 7, 3) := by decide +kernel
theorem dX10_restore_40 : decode cX10_restore 40 = .ok (.iconst 0, 1) := by decide +kernel
theorem dX10_restore_41 : decode cX10_restore 41 = .ok (.invokestatic 50, 3) := by decide +kernel
theorem dX10_restore_44 : decode cX10_restore 44 = .ok (.aload_n 0, 1) := by decide +kernel
theorem dX10_restore_45 : decode cX10_restore 45 = .ok (.getfield 7, 3) := by decide +kernel
theorem dX10_restore_48 : decode cX10_restore 48 = .ok (.iconst 3, 1) := by decide +kernel
theorem dX10_restore_49 : decode cX10_restore 49 = .ok (.iaload, 1) := by decide +kernel
theorem dX10_restore_50 : decode cX10_restore 50 = .ok (.ireturn, 1) := by decide +kernel
theorem dX10_undo_0 : decode cX10_undo 0 = .ok (.aload_n 0, 1) := by decide +kernel
theorem dX10_undo_1 : decode cX10_undo 1 = .ok (.getfield 209, 3) := by decide +kernel
theorem dX10_undo_4 : decode cX10_undo 4 = .ok (.ifCond .ne 5, 3) := by decide +kernel
theorem dX10_undo_7 : decode cX10_undo 7 = .ok (.iconst (-1), 1) := by decide +kernel
theorem dX10_undo_8 : decode cX10_undo 8 = .ok (.ireturn, 1) := by decide +kernel
theorem dX10_undo_9 : decode cX10_undo 9 = .ok (.aload_n 0, 1) := by decide +kernel
theorem dX10_undo_10 : decode cX10_undo 10 = .ok (.dup, 1) := by decide +kernel
theorem dX10_undo_11 : decode cX10_undo 11 = .ok (.getfield 209, 3) := by decide +kernel
theorem dX10_undo_14 : decode cX10_undo 14 = .ok (.iconst 1, 1) := by decide +kernel
theorem dX10_undo_15 : decode cX10_undo 15 = .ok (.isub, 1) := by decide +kernel
theorem dX10_undo_16 : decode cX10_undo 16 = .ok (.putfield 209, 3) := by decide +kernel
theorem dX10_undo_19 : decode cX10_undo 19 = .ok (.aload_n 0, 1) := by decide +kernel
theorem dX10_undo_20 : decode cX10_undo 20 = .ok (.getfield 19, 3) := by decide +kernel
theorem dX10_undo_23 : decode cX10_undo 23 = .ok (.sipush 336, 3) := by decide +kernel
theorem dX10_undo_26 : decode cX10_undo 26 = .ok (.aload_n 0, 1) := by decide +kernel
theorem dX10_undo_27 : decode cX10_undo 27 = .ok (.getfield 209, 3) := by decide +kernel
theorem dX10_undo_30 : decode cX10_undo 30 = .ok (.imul, 1) := by decide +kernel
theorem dX10_undo_31 : decode cX10_undo 31 = .ok (.aload_n 0, 1) := by decide +kernel
theorem dX10_undo_32 : decode cX10_undo 32 = .ok (.getfield 7, 3) := by decide +kernel
theorem dX10_undo_35 : decode cX10_undo 35 = .ok (.iconst 0, 1) := by decide +kernel
theorem dX10_undo_36 : decode cX10_undo 36 = .ok (.invokestatic 50, 3) := by decide +kernel
theorem dX10_undo_39 : decode cX10_undo 39 = .ok (.aload_n 0, 1) := by decide +kernel
theorem dX10_undo_40 : decode cX10_undo 40 = .ok (.getfield 209, 3) := by decide +kernel
theorem dX10_undo_43 : decode cX10_undo 43 = .ok (.ireturn, 1) := by decide +kernel
theorem dX10_openAll_0 : decode cX10_openAll 0 = .ok (.iconst 0, 1) := by decide +kernel
theorem dX10_openAll_1 : decode cX10_openAll 1 = .ok (.istore_n 1, 1) := by decide +kernel
theorem dX10_openAll_2 : decode cX10_openAll 2 = .ok (.iconst 0, 1) := by decide +kernel
theorem dX10_openAll_3 : decode cX10_openAll 3 = .ok (.istore_n 2, 1) := by decide +kernel
theorem dX10_openAll_4 : decode cX10_openAll 4 = .ok (.iload_n 2, 1) := by decide +kernel
theorem dX10_openAll_5 : decode cX10_openAll 5 = .ok (.aload_n 0, 1) := by decide +kernel
theorem dX10_openAll_6 : decode cX10_openAll 6 = .ok (.getfield 7, 3) := by decide +kernel
theorem dX10_openAll_9 : decode cX10_openAll 9 = .ok (.iconst 4, 1) := by decide +kernel
theorem dX10_openAll_10 : decode cX10_openAll 10 = .ok (.iaload, 1) := by decide +kernel
theorem dX10_openAll_11 : decode cX10_openAll 11 = .ok (.if_icmp .ge 22, 3) := by decide +kernel
theorem dX10_openAll_14 : decode cX10_openAll 14 = .ok (.iload_n 1, 1) := by decide +kernel
theorem dX10_openAll_15 : decode cX10_openAll 15 = .ok (.aload_n 0, 1) := by decide +kernel
theorem dX10_openAll_16 : decode cX10_openAll 16 = .ok (.getfield 7, 3) := by decide +kernel
theorem dX10_openAll_19 : decode cX10_openAll 19 = .ok (.iload_n 2, 1) := by decide +kernel
theorem dX10_openAll_20 : decode cX10_openAll 20 = .ok (.iconst 2, 1) := by decide +kernel
theorem dX10_openAll_21 : decode cX10_openAll 21 = .ok (.invokestatic 54, 3) := by decide +kernel
theorem dX10_openAll_24 : decode cX10_openAll 24 = .ok (.iaload, 1) := by decide +kernel
theorem dX10_openAll_25 : decode cX10_openAll 25 = .ok (.iadd, 1) := by decide +kernel
theorem dX10_openAll_26 : decode cX10_openAll 26 = .ok (.istore_n 1, 1) := by decide +kernel
theorem dX10_openAll_27 : decode cX10_openAll 27 = .ok (.iinc 2 1, 3) := by decide +kernel
theorem dX10_openAll_30 : decode cX10_openAll 30 = .ok (.goto (-26), 3) := by decide +kernel
theorem dX10_openAll_33 : decode cX10_openAll 33 = .ok (.iload_n 1, 1) := by decide +kernel
theorem dX10_openAll_34 : decode cX10_openAll 34 = .ok (.ireturn, 1) := by decide +kernel
theorem dX10_lengthAll_0 : decode cX10_lengthAll 0 = .ok (.iconst 0, 1) := by decide +kernel
theorem dX10_lengthAll_1 : decode cX10_lengthAll 1 = .ok (.istore_n 1, 1) := by decide +kernel
theorem dX10_lengthAll_2 : decode cX10_lengthAll 2 = .ok (.iconst 0, 1) := by decide +kernel
theorem dX10_lengthAll_3 : decode cX10_lengthAll 3 = .ok (.istore_n 2, 1) := by decide +kernel
theorem dX10_lengthAll_4 : decode cX10_lengthAll 4 = .ok (.iload_n 2, 1) := by decide +kernel
theorem dX10_lengthAll_5 : decode cX10_lengthAll 5 = .ok (.aload_n 0, 1) := by decide +kernel
theorem dX10_lengthAll_6 : decode cX10_lengthAll 6 = .ok (.getfield 7, 3) := by decide +kernel
theorem dX10_lengthAll_9 : decode cX10_lengthAll 9 = .ok (.iconst 4, 1) := by decide +kernel
theorem dX10_lengthAll_10 : decode cX10_lengthAll 10 = .ok (.iaload, 1) := by decide +kernel
theorem dX10_lengthAll_11 : decode cX10_lengthAll 11 = .ok (.if_icmp .ge 20, 3) := by decide +kernel
theorem dX10_lengthAll_14 : decode cX10_lengthAll 14 = .ok (.iload_n 1, 1) := by decide +kernel
theorem dX10_lengthAll_15 : decode cX10_lengthAll 15 = .ok (.aload_n 0, 1) := by decide +kernel
theorem dX10_lengthAll_16 : decode cX10_lengthAll 16 = .ok (.getfield 7, 3) := by decide +kernel
theorem dX10_lengthAll_19 : decode cX10_lengthAll 19 = .ok (.iload_n 2, 1) := by decide +kernel
theorem dX10_lengthAll_20 : decode cX10_lengthAll 20 = .ok (.invokestatic 235, 3) := by decide +kernel
theorem dX10_lengthAll_23 : decode cX10_lengthAll 23 = .ok (.iadd, 1) := by decide +kernel
theorem dX10_lengthAll_24 : decode cX10_lengthAll 24 = .ok (.istore_n 1, 1) := by decide +kernel
theorem dX10_lengthAll_25 : decode cX10_lengthAll 25 = .ok (.iinc 2 1, 3) := by decide +kernel
theorem dX10_lengthAll_28 : decode cX10_lengthAll 28 = .ok (.goto (-24), 3) := by decide +kernel
theorem dX10_lengthAll_31 : decode cX10_lengthAll 31 = .ok (.iload_n 1, 1) := by decide +kernel
theorem dX10_lengthAll_32 : decode cX10_lengthAll 32 = .ok (.ireturn, 1) := by decide +kernel
theorem dX10_value_0 : decode cX10_value 0 = .ok (.iload_n 1, 1) := by decide +kernel
theorem dX10_value_1 : decode cX10_value 1 = .ok (.tableswitch 166 0 20 #[99, 99, 99, 99, 99, 106, 111, 118, 126, 134, 139, 139, 139, 139, 139, 139, 139, 139, 139, 152, 161], 99) := by decide +kernel
theorem dX10_value_100 : decode cX10_value 100 = .ok (.aload_n 0, 1) := by decide +kernel
theorem dX10_value_101 : decode cX10_value 101 = .ok (.getfield 7, 3) := by decide +kernel
theorem dX10_value_104 : decode cX10_value 104 = .ok (.iload_n 1, 1) := by decide +kernel
theorem dX10_value_105 : decode cX10_value 105 = .ok (.iaload, 1) := by decide +kernel
theorem dX10_value_106 : decode cX10_value 106 = .ok (.ireturn, 1) := by decide +kernel
theorem dX10_value_107 : decode cX10_value 107 = .ok (.aload_n 0, 1) := by decide +kernel
theorem dX10_value_108 : decode cX10_value 108 = .ok (.invokevirtual 238, 3) := by decide +kernel
theorem dX10_value_111 : decode cX10_value 111 = .ok (.ireturn, 1) := by decide +kernel
theorem dX10_value_112 : decode cX10_value 112 = .ok (.aload_n 0, 1) := by decide +kernel
theorem dX10_value_113 : decode cX10_value 113 = .ok (.getfield 7, 3) := by decide +kernel
theorem dX10_value_116 : decode cX10_value 116 = .ok (.iconst 5, 1) := by decide +kernel
theorem dX10_value_117 : decode cX10_value 117 = .ok (.iaload, 1) := by decide +kernel
theorem dX10_value_118 : decode cX10_value 118 = .ok (.ireturn, 1) := by decide +kernel
theorem dX10_value_119 : decode cX10_value 119 = .ok (.aload_n 0, 1) := by decide +kernel
theorem dX10_value_120 : decode cX10_value 120 = .ok (.getfield 7, 3) := by decide +kernel
theorem dX10_value_123 : decode cX10_value 123 = .ok (.bipush 6, 2) := by decide +kernel
theorem dX10_value_125 : decode cX10_value 125 = .ok (.iaload, 1) := by decide +kernel
theorem dX10_value_126 : decode cX10_value 126 = .ok (.ireturn, 1) := by decide +kernel
theorem dX10_value_127 : decode cX10_value 127 = .ok (.aload_n 0, 1) := by decide +kernel
theorem dX10_value_128 : decode cX10_value 128 = .ok (.getfield 7, 3) := by decide +kernel
theorem dX10_value_131 : decode cX10_value 131 = .ok (.invokestatic 242, 3) := by decide +kernel
theorem dX10_value_134 : decode cX10_value 134 = .ok (.ireturn, 1) := by decide +kernel
theorem dX10_value_135 : decode cX10_value 135 = .ok (.aload_n 0, 1) := by decide +kernel
theorem dX10_value_136 : decode cX10_value 136 = .ok (.invokevirtual 245, 3) := by decide +kernel
theorem dX10_value_139 : decode cX10_value 139 = .ok (.ireturn, 1) := by decide +kernel
theorem dX10_value_140 : decode cX10_value 140 = .ok (.aload_n 0, 1) := by decide +kernel
theorem dX10_value_141 : decode cX10_value 141 = .ok (.getfield 7, 3) := by decide +kernel
theorem dX10_value_144 : decode cX10_value 144 = .ok (.bipush 8, 2) := by decide +kernel
theorem dX10_value_146 : decode cX10_value 146 = .ok (.iload_n 1, 1) := by decide +kernel
theorem dX10_value_147 : decode cX10_value 147 = .ok (.iadd, 1) := by decide +kernel
theorem dX10_value_148 : decode cX10_value 148 = .ok (.bipush 10, 2) := by decide +kernel
theorem dX10_value_150 : decode cX10_value 150 = .ok (.isub, 1) := by decide +kernel
theorem dX10_value_151 : decode cX10_value 151 = .ok (.iaload, 1) := by decide +kernel
theorem dX10_value_152 : decode cX10_value 152 = .ok (.ireturn, 1) := by decide +kernel
theorem dX10_value_153 : decode cX10_value 153 = .ok (.aload_n 0, 1) := by decide +kernel
theorem dX10_value_154 : decode cX10_value 154 = .ok (.getfield 7, 3) := by decide +kernel
theorem dX10_value_157 : decode cX10_value 157 = .ok (.sipush 215, 3) := by decide +kernel
theorem dX10_value_160 : decode cX10_value 160 = .ok (.iaload, 1) := by decide +kernel
theorem dX10_value_161 : decode cX10_value 161 = .ok (.ireturn, 1) := by decide +kernel
theorem dX10_value_162 : decode cX10_value 162 = .ok (.aload_n 0, 1) := by decide +kernel
theorem dX10_value_163 : decode cX10_value 163 = .ok (.getfield 209, 3) := by decide +kernel
theorem dX10_value_166 : decode cX10_value 166 = .ok (.ireturn, 1) := by decide +kernel
theorem dX10_value_167 : decode cX10_value 167 = .ok (.iconst (-1), 1) := by decide +kernel
theorem dX10_value_168 : decode cX10_value 168 = .ok (.ireturn, 1) := by decide +kernel
theorem dX10_lettersTo_0 : decode cX10_lettersTo 0 = .ok (.iconst 0, 1) := by decide +kernel
theorem dX10_lettersTo_1 : decode cX10_lettersTo 1 = .ok (.istore_n 2, 1) := by decide +kernel
theorem dX10_lettersTo_2 : decode cX10_lettersTo 2 = .ok (.iconst 0, 1) := by decide +kernel
theorem dX10_lettersTo_3 : decode cX10_lettersTo 3 = .ok (.istore_n 3, 1) := by decide +kernel
theorem dX10_lettersTo_4 : decode cX10_lettersTo 4 = .ok (.iload_n 3, 1) := by decide +kernel
theorem dX10_lettersTo_5 : decode cX10_lettersTo 5 = .ok (.aload_n 0, 1) := by decide +kernel
theorem dX10_lettersTo_6 : decode cX10_lettersTo 6 = .ok (.getfield 7, 3) := by decide +kernel
theorem dX10_lettersTo_9 : decode cX10_lettersTo 9 = .ok (.iconst 4, 1) := by decide +kernel
theorem dX10_lettersTo_10 : decode cX10_lettersTo 10 = .ok (.iaload, 1) := by decide +kernel
theorem dX10_lettersTo_11 : decode cX10_lettersTo 11 = .ok (.if_icmp .ge 52, 3) := by decide +kernel
theorem dX10_lettersTo_14 : decode cX10_lettersTo 14 = .ok (.iconst 0, 1) := by decide +kernel
theorem dX10_lettersTo_15 : decode cX10_lettersTo 15 = .ok (.istore 4, 2) := by decide +kernel
theorem dX10_lettersTo_17 : decode cX10_lettersTo 17 = .ok (.iload 4, 2) := by decide +kernel
theorem dX10_lettersTo_19 : decode cX10_lettersTo 19 = .ok (.aload_n 0, 1) := by decide +kernel
theorem dX10_lettersTo_20 : decode cX10_lettersTo 20 = .ok (.getfield 7, 3) := by decide +kernel
theorem dX10_lettersTo_23 : decode cX10_lettersTo 23 = .ok (.iload_n 3, 1) := by decide +kernel
theorem dX10_lettersTo_24 : decode cX10_lettersTo 24 = .ok (.iconst 4, 1) := by decide +kernel
theorem dX10_lettersTo_25 : decode cX10_lettersTo 25 = .ok (.invokestatic 54, 3) := by decide +kernel
theorem dX10_lettersTo_28 : decode cX10_lettersTo 28 = .ok (.iaload, 1) := by decide +kernel
theorem dX10_lettersTo_29 : decode cX10_lettersTo 29 = .ok (.if_icmp .ge 28, 3) := by decide +kernel
theorem dX10_lettersTo_32 : decode cX10_lettersTo 32 = .ok (.aload_n 0, 1) := by decide +kernel
theorem dX10_lettersTo_33 : decode cX10_lettersTo 33 = .ok (.getfield 7, 3) := by decide +kernel
theorem dX10_lettersTo_36 : decode cX10_lettersTo 36 = .ok (.iload_n 3, 1) := by decide +kernel
theorem dX10_lettersTo_37 : decode cX10_lettersTo 37 = .ok (.iload 4, 2) := by decide +kernel
theorem dX10_lettersTo_39 : decode cX10_lettersTo 39 = .ok (.iconst 0, 1) := by decide +kernel
theorem dX10_lettersTo_40 : decode cX10_lettersTo 40 = .ok (.invokestatic 62, 3) := by decide +kernel
theorem dX10_lettersTo_43 : decode cX10_lettersTo 43 = .ok (.iaload, 1) := by decide +kernel
theorem dX10_lettersTo_44 : decode cX10_lettersTo 44 = .ok (.iload_n 1, 1) := by decide +kernel
theorem dX10_lettersTo_45 : decode cX10_lettersTo 45 = .ok (.if_icmp .ne 6, 3) := by decide +kernel
theorem dX10_lettersTo_48 : decode cX10_lettersTo 48 = .ok (.iinc 2 1, 3) := by decide +kernel
theorem dX10_lettersTo_51 : decode cX10_lettersTo 51 = .ok (.iinc 4 1, 3) := by decide +kernel
theorem dX10_lettersTo_54 : decode cX10_lettersTo 54 = .ok (.goto (-37), 3) := by decide +kernel
theorem dX10_lettersTo_57 : decode cX10_lettersTo 57 = .ok (.iinc 3 1, 3) := by decide +kernel
theorem dX10_lettersTo_60 : decode cX10_lettersTo 60 = .ok (.goto (-56), 3) := by decide +kernel
theorem dX10_lettersTo_63 : decode cX10_lettersTo 63 = .ok (.iload_n 2, 1) := by decide +kernel
theorem dX10_lettersTo_64 : decode cX10_lettersTo 64 = .ok (.ireturn, 1) := by decide +kernel
theorem dX10_office_0 : decode cX10_office 0 = .ok (.aload_n 0, 1) := by decide +kernel
theorem dX10_office_1 : decode cX10_office 1 = .ok (.iload_n 1, 1) := by decide +kernel
theorem dX10_office_2 : decode cX10_office 2 = .ok (.invokevirtual 212, 3) := by decide +kernel
theorem dX10_office_5 : decode cX10_office 5 = .ok (.ifCond .ne 5, 3) := by decide +kernel
theorem dX10_office_8 : decode cX10_office 8 = .ok (.iconst (-1), 1) := by decide +kernel
theorem dX10_office_9 : decode cX10_office 9 = .ok (.ireturn, 1) := by decide +kernel
theorem dX10_office_10 : decode cX10_office 10 = .ok (.iload_n 2, 1) := by decide +kernel
theorem dX10_office_11 : decode cX10_office 11 = .ok (.tableswitch 96 0 8 #[49, 49, 49, 49, 49, 60, 69, 79, 90], 49) := by decide +kernel
theorem dX10_office_60 : decode cX10_office 60 = .ok (.aload_n 0, 1) := by decide +kernel
theorem dX10_office_61 : decode cX10_office 61 = .ok (.getfield 7, 3) := by decide +kernel
theorem dX10_office_64 : decode cX10_office 64 = .ok (.iload_n 1, 1) := by decide +kernel
theorem dX10_office_65 : decode cX10_office 65 = .ok (.iload_n 2, 1) := by decide +kernel
theorem dX10_office_66 : decode cX10_office 66 = .ok (.invokestatic 54, 3) := by decide +kernel
theorem dX10_office_69 : decode cX10_office 69 = .ok (.iaload, 1) := by decide +kernel
theorem dX10_office_70 : decode cX10_office 70 = .ok (.ireturn, 1) := by decide +kernel
theorem dX10_office_71 : decode cX10_office 71 = .ok (.aload_n 0, 1) := by decide +kernel
theorem dX10_office_72 : decode cX10_office 72 = .ok (.getfield 7, 3) := by decide +kernel
theorem dX10_office_75 : decode cX10_office 75 = .ok (.iload_n 1, 1) := by decide +kernel
theorem dX10_office_76 : decode cX10_office 76 = .ok (.invokestatic 235, 3) := by decide +kernel
theorem dX10_office_79 : decode cX10_office 79 = .ok (.ireturn, 1) := by decide +kernel
theorem dX10_office_80 : decode cX10_office 80 = .ok (.aload_n 0, 1) := by decide +kernel
theorem dX10_office_81 : decode cX10_office 81 = .ok (.getfield 7, 3) := by decide +kernel
theorem dX10_office_84 : decode cX10_office 84 = .ok (.iload_n 1, 1) := by decide +kernel
theorem dX10_office_85 : decode cX10_office 85 = .ok (.iconst 0, 1) := by decide +kernel
theorem dX10_office_86 : decode cX10_office 86 = .ok (.invokestatic 107, 3) := by decide +kernel
theorem dX10_office_89 : decode cX10_office 89 = .ok (.ireturn, 1) := by decide +kernel
theorem dX10_office_90 : decode cX10_office 90 = .ok (.aload_n 0, 1) := by decide +kernel
theorem dX10_office_91 : decode cX10_office 91 = .ok (.getfield 7, 3) := by decide +kernel
theorem dX10_office_94 : decode cX10_office 94 = .ok (.iload_n 1, 1) := by decide +kernel
theorem dX10_office_95 : decode cX10_office 95 = .ok (.iconst 5, 1) := by decide +kernel
theorem dX10_office_96 : decode cX10_office 96 = .ok (.invokestatic 54, 3) := by decide +kernel
theorem dX10_office_99 : decode cX10_office 99 = .ok (.iaload, 1) := by decide +kernel
theorem dX10_office_100 : decode cX10_office 100 = .ok (.ireturn, 1) := by decide +kernel
theorem dX10_office_101 : decode cX10_office 101 = .ok (.aload_n 0, 1) := by decide +kernel
theorem dX10_office_102 : decode cX10_office 102 = .ok (.iload_n 1, 1) := by decide +kernel
theorem dX10_office_103 : decode cX10_office 103 = .ok (.invokevirtual 248, 3) := by decide +kernel
theorem dX10_office_106 : decode cX10_office 106 = .ok (.ireturn, 1) := by decide +kernel
theorem dX10_office_107 : decode cX10_office 107 = .ok (.iconst (-1), 1) := by decide +kernel
theorem dX10_office_108 : decode cX10_office 108 = .ok (.ireturn, 1) := by decide +kernel
theorem dX10_queue_0 : decode cX10_queue 0 = .ok (.aload_n 0, 1) := by decide +kernel
theorem dX10_queue_1 : decode cX10_queue 1 = .ok (.iload_n 1, 1) := by decide +kernel
theorem dX10_queue_2 : decode cX10_queue 2 = .ok (.invokevirtual 212, 3) := by decide +kernel
theorem dX10_queue_5 : decode cX10_queue 5 = .ok (.ifCond .eq 16, 3) := by decide +kernel
theorem dX10_queue_8 : decode cX10_queue 8 = .ok (.iload_n 2, 1) := by decide +kernel
theorem dX10_queue_9 : decode cX10_queue 9 = .ok (.ifCond .lt 12, 3) := by decide +kernel
theorem dX10_queue_12 : decode cX10_queue 12 = .ok (.iload_n 3, 1) := by decide +kernel
theorem dX10_queue_13 : decode cX10_queue 13 = .ok (.iconst 0, 1) := by decide +kernel
theorem dX10_queue_14 : decode cX10_queue 14 = .ok (.iconst 2, 1) := by decide +kernel
theorem dX10_queue_15 : decode cX10_queue 15 = .ok (.invokestatic 58, 3) := by decide +kernel
theorem dX10_queue_18 : decode cX10_queue 18 = .ok (.ifCond .ne 5, 3) := by decide +kernel
theorem dX10_queue_21 : decode cX10_queue 21 = .ok (.iconst (-1), 1) := by decide +kernel
theorem dX10_queue_22 : decode cX10_queue 22 = .ok (.ireturn, 1) := by decide +kernel
theorem dX10_queue_23 : decode cX10_queue 23 = .ok (.iload_n 2, 1) := by decide +kernel
theorem dX10_queue_24 : decode cX10_queue 24 = .ok (.aload_n 0, 1) := by decide +kernel
theorem dX10_queue_25 : decode cX10_queue 25 = .ok (.getfield 7, 3) := by decide +kernel
theorem dX10_queue_28 : decode cX10_queue 28 = .ok (.iload_n 1, 1) := by decide +kernel
theorem dX10_queue_29 : decode cX10_queue 29 = .ok (.iconst 4, 1) := by decide +kernel
theorem dX10_queue_30 : decode cX10_queue 30 = .ok (.invokestatic 54, 3) := by decide +kernel
theorem dX10_queue_33 : decode cX10_queue 33 = .ok (.iaload, 1) := by decide +kernel
theorem dX10_queue_34 : decode cX10_queue 34 = .ok (.if_icmp .lt 6, 3) := by decide +kernel
theorem dX10_queue_37 : decode cX10_queue 37 = .ok (.bipush (-2), 2) := by decide +kernel
theorem dX10_queue_39 : decode cX10_queue 39 = .ok (.ireturn, 1) := by decide +kernel
theorem dX10_queue_40 : decode cX10_queue 40 = .ok (.iload_n 3, 1) := by decide +kernel
theorem dX10_queue_41 : decode cX10_queue 41 = .ok (.iconst 2, 1) := by decide +kernel
theorem dX10_queue_42 : decode cX10_queue 42 = .ok (.if_icmp .ge 15, 3) := by decide +kernel
theorem dX10_queue_45 : decode cX10_queue 45 = .ok (.aload_n 0, 1) := by decide +kernel
theorem dX10_queue_46 : decode cX10_queue 46 = .ok (.getfield 7, 3) := by decide +kernel
theorem dX10_queue_49 : decode cX10_queue 49 = .ok (.iload_n 1, 1) := by decide +kernel
theorem dX10_queue_50 : decode cX10_queue 50 = .ok (.iload_n 2, 1) := by decide +kernel
theorem dX10_queue_51 : decode cX10_queue 51 = .ok (.iload_n 3, 1) := by decide +kernel
theorem dX10_queue_52 : decode cX10_queue 52 = .ok (.invokestatic 62, 3) := by decide +kernel
theorem dX10_queue_55 : decode cX10_queue 55 = .ok (.iaload, 1) := by decide +kernel
theorem dX10_queue_56 : decode cX10_queue 56 = .ok (.ireturn, 1) := by decide +kernel
theorem dX10_queue_57 : decode cX10_queue 57 = .ok (.iload_n 2, 1) := by decide +kernel
theorem dX10_queue_58 : decode cX10_queue 58 = .ok (.ifCond .ne 19, 3) := by decide +kernel
theorem dX10_queue_61 : decode cX10_queue 61 = .ok (.aload_n 0, 1) := by decide +kernel
theorem dX10_queue_62 : decode cX10_queue 62 = .ok (.iload_n 1, 1) := by decide +kernel
theorem dX10_queue_63 : decode cX10_queue 63 = .ok (.invokevirtual 218, 3) := by decide +kernel
theorem dX10_queue_66 : decode cX10_queue 66 = .ok (.ifCond .le 11, 3) := by decide +kernel
theorem dX10_queue_69 : decode cX10_queue 69 = .ok (.aload_n 0, 1) := by decide +kernel
theorem dX10_queue_70 : decode cX10_queue 70 = .ok (.iload_n 1, 1) := by decide +kernel
theorem dX10_queue_71 : decode cX10_queue 71 = .ok (.invokevirtual 218, 3) := by decide +kernel
theorem dX10_queue_74 : decode cX10_queue 74 = .ok (.goto 14, 3) := by decide +kernel
theorem dX10_queue_77 : decode cX10_queue 77 = .ok (.aload_n 0, 1) := by decide +kernel
theorem dX10_queue_78 : decode cX10_queue 78 = .ok (.getfield 7, 3) := by decide +kernel
theorem dX10_queue_81 : decode cX10_queue 81 = .ok (.iload_n 1, 1) := by decide +kernel
theorem dX10_queue_82 : decode cX10_queue 82 = .ok (.iload_n 2, 1) := by decide +kernel
theorem dX10_queue_83 : decode cX10_queue 83 = .ok (.iconst 1, 1) := by decide +kernel
theorem dX10_queue_84 : decode cX10_queue 84 = .ok (.invokestatic 62, 3) := by decide +kernel
theorem dX10_queue_87 : decode cX10_queue 87 = .ok (.iaload, 1) := by decide +kernel
theorem dX10_queue_88 : decode cX10_queue 88 = .ok (.ireturn, 1) := by decide +kernel
theorem dX10_token_0 : decode cX10_token 0 = .ok (.aload_n 0, 1) := by decide +kernel
theorem dX10_token_1 : decode cX10_token 1 = .ok (.iload_n 1, 1) := by decide +kernel
theorem dX10_token_2 : decode cX10_token 2 = .ok (.invokevirtual 225, 3) := by decide +kernel
theorem dX10_token_5 : decode cX10_token 5 = .ok (.ifCond .eq 25, 3) := by decide +kernel
theorem dX10_token_8 : decode cX10_token 8 = .ok (.iload_n 2, 1) := by decide +kernel
theorem dX10_token_9 : decode cX10_token 9 = .ok (.iconst 0, 1) := by decide +kernel
theorem dX10_token_10 : decode cX10_token 10 = .ok (.iconst 4, 1) := by decide +kernel
theorem dX10_token_11 : decode cX10_token 11 = .ok (.invokestatic 58, 3) := by decide +kernel
theorem dX10_token_14 : decode cX10_token 14 = .ok (.ifCond .eq 16, 3) := by decide +kernel
theorem dX10_token_17 : decode cX10_token 17 = .ok (.aload_n 0, 1) := by decide +kernel
theorem dX10_token_18 : decode cX10_token 18 = .ok (.getfield 7, 3) := by decide +kernel
theorem dX10_token_21 : decode cX10_token 21 = .ok (.iload_n 1, 1) := by decide +kernel
theorem dX10_token_22 : decode cX10_token 22 = .ok (.iload_n 2, 1) := by decide +kernel
theorem dX10_token_23 : decode cX10_token 23 = .ok (.invokestatic 66, 3) := by decide +kernel
theorem dX10_token_26 : decode cX10_token 26 = .ok (.iaload, 1) := by decide +kernel
theorem dX10_token_27 : decode cX10_token 27 = .ok (.goto 4, 3) := by decide +kernel
theorem dX10_token_30 : decode cX10_token 30 = .ok (.iconst (-1), 1) := by decide +kernel
theorem dX10_token_31 : decode cX10_token 31 = .ok (.ireturn, 1) := by decide +kernel
theorem dX10_winner_0 : decode cX10_winner 0 = .ok (.aload_n 0, 1) := by decide +kernel
theorem dX10_winner_1 : decode cX10_winner 1 = .ok (.getfield 7, 3) := by decide +kernel
theorem dX10_winner_4 : decode cX10_winner 4 = .ok (.invokestatic 110, 3) := by decide +kernel
theorem dX10_winner_7 : decode cX10_winner 7 = .ok (.ireturn, 1) := by decide +kernel
theorem dX10_round_0 : decode cX10_round 0 = .ok (.iconst 0, 1) := by decide +kernel
theorem dX10_round_1 : decode cX10_round 1 = .ok (.istore_n 1, 1) := by decide +kernel
theorem dX10_round_2 : decode cX10_round 2 = .ok (.iconst 0, 1) := by decide +kernel
theorem dX10_round_3 : decode cX10_round 3 = .ok (.istore_n 2, 1) := by decide +kernel
theorem dX10_round_4 : decode cX10_round 4 = .ok (.iload_n 2, 1) := by decide +kernel
theorem dX10_round_5 : decode cX10_round 5 = .ok (.aload_n 0, 1) := by decide +kernel
theorem dX10_round_6 : decode cX10_round 6 = .ok (.getfield 7, 3) := by decide +kernel
theorem dX10_round_9 : decode cX10_round 9 = .ok (.iconst 4, 1) := by decide +kernel
theorem dX10_round_10 : decode cX10_round 10 = .ok (.iaload, 1) := by decide +kernel
theorem dX10_round_11 : decode cX10_round 11 = .ok (.if_icmp .ge 22, 3) := by decide +kernel
theorem dX10_round_14 : decode cX10_round 14 = .ok (.iload_n 1, 1) := by decide +kernel
theorem dX10_round_15 : decode cX10_round 15 = .ok (.aload_n 0, 1) := by decide +kernel
theorem dX10_round_16 : decode cX10_round 16 = .ok (.getfield 7, 3) := by decide +kernel
theorem dX10_round_19 : decode cX10_round 19 = .ok (.iload_n 2, 1) := by decide +kernel
theorem dX10_round_20 : decode cX10_round 20 = .ok (.iconst 0, 1) := by decide +kernel
theorem dX10_round_21 : decode cX10_round 21 = .ok (.invokestatic 54, 3) := by decide +kernel
theorem dX10_round_24 : decode cX10_round 24 = .ok (.iaload, 1) := by decide +kernel
theorem dX10_round_25 : decode cX10_round 25 = .ok (.iadd, 1) := by decide +kernel
theorem dX10_round_26 : decode cX10_round 26 = .ok (.istore_n 1, 1) := by decide +kernel
theorem dX10_round_27 : decode cX10_round 27 = .ok (.iinc 2 1, 3) := by decide +kernel
theorem dX10_round_30 : decode cX10_round 30 = .ok (.goto (-26), 3) := by decide +kernel
theorem dX10_round_33 : decode cX10_round 33 = .ok (.iload_n 1, 1) := by decide +kernel
theorem dX10_round_34 : decode cX10_round 34 = .ok (.ireturn, 1) := by decide +kernel
theorem dX10_busiest_0 : decode cX10_busiest 0 = .ok (.iconst 0, 1) := by decide +kernel
theorem dX10_busiest_1 : decode cX10_busiest 1 = .ok (.istore_n 1, 1) := by decide +kernel
theorem dX10_busiest_2 : decode cX10_busiest 2 = .ok (.iconst 1, 1) := by decide +kernel
theorem dX10_busiest_3 : decode cX10_busiest 3 = .ok (.istore_n 2, 1) := by decide +kernel
theorem dX10_busiest_4 : decode cX10_busiest 4 = .ok (.iload_n 2, 1) := by decide +kernel
theorem dX10_busiest_5 : decode cX10_busiest 5 = .ok (.aload_n 0, 1) := by decide +kernel
theorem dX10_busiest_6 : decode cX10_busiest 6 = .ok (.getfield 7, 3) := by decide +kernel
theorem dX10_busiest_9 : decode cX10_busiest 9 = .ok (.iconst 4, 1) := by decide +kernel
theorem dX10_busiest_10 : decode cX10_busiest 10 = .ok (.iaload, 1) := by decide +kernel
theorem dX10_busiest_11 : decode cX10_busiest 11 = .ok (.if_icmp .ge 30, 3) := by decide +kernel
theorem dX10_busiest_14 : decode cX10_busiest 14 = .ok (.aload_n 0, 1) := by decide +kernel
theorem dX10_busiest_15 : decode cX10_busiest 15 = .ok (.getfield 7, 3) := by decide +kernel
theorem dX10_busiest_18 : decode cX10_busiest 18 = .ok (.iload_n 2, 1) := by decide +kernel
theorem dX10_busiest_19 : decode cX10_busiest 19 = .ok (.invokestatic 235, 3) := by decide +kernel
theorem dX10_busiest_22 : decode cX10_busiest 22 = .ok (.aload_n 0, 1) := by decide +kernel
theorem dX10_busiest_23 : decode cX10_busiest 23 = .ok (.getfield 7, 3) := by decide +kernel
theorem dX10_busiest_26 : decode cX10_busiest 26 = .ok (.iload_n 1, 1) := by decide +kernel
theorem dX10_busiest_27 : decode cX10_busiest 27 = .ok (.invokestatic 235, 3) := by decide +kernel
theorem dX10_busiest_30 : decode cX10_busiest 30 = .ok (.if_icmp .le 5, 3) := by decide +kernel
theorem dX10_busiest_33 : decode cX10_busiest 33 = .ok (.iload_n 2, 1) := by decide +kernel
theorem dX10_busiest_34 : decode cX10_busiest 34 = .ok (.istore_n 1, 1) := by decide +kernel
theorem dX10_busiest_35 : decode cX10_busiest 35 = .ok (.iinc 2 1, 3) := by decide +kernel
theorem dX10_busiest_38 : decode cX10_busiest 38 = .ok (.goto (-34), 3) := by decide +kernel
theorem dX10_busiest_41 : decode cX10_busiest 41 = .ok (.iload_n 1, 1) := by decide +kernel
theorem dX10_busiest_42 : decode cX10_busiest 42 = .ok (.ireturn, 1) := by decide +kernel
theorem dX10_why_0 : decode cX10_why 0 = .ok (.aload_n 0, 1) := by decide +kernel
theorem dX10_why_1 : decode cX10_why 1 = .ok (.iload_n 1, 1) := by decide +kernel
theorem dX10_why_2 : decode cX10_why 2 = .ok (.invokevirtual 212, 3) := by decide +kernel
theorem dX10_why_5 : decode cX10_why 5 = .ok (.ifCond .ne 5, 3) := by decide +kernel
theorem dX10_why_8 : decode cX10_why 8 = .ok (.iconst (-1), 1) := by decide +kernel
theorem dX10_why_9 : decode cX10_why 9 = .ok (.ireturn, 1) := by decide +kernel
theorem dX10_why_10 : decode cX10_why 10 = .ok (.aload_n 0, 1) := by decide +kernel
theorem dX10_why_11 : decode cX10_why 11 = .ok (.getfield 7, 3) := by decide +kernel
theorem dX10_why_14 : decode cX10_why 14 = .ok (.iload_n 1, 1) := by decide +kernel
theorem dX10_why_15 : decode cX10_why 15 = .ok (.iconst 0, 1) := by decide +kernel
theorem dX10_why_16 : decode cX10_why 16 = .ok (.invokestatic 107, 3) := by decide +kernel
theorem dX10_why_19 : decode cX10_why 19 = .ok (.istore_n 2, 1) := by decide +kernel
theorem dX10_why_20 : decode cX10_why 20 = .ok (.aload_n 0, 1) := by decide +kernel
theorem dX10_why_21 : decode cX10_why 21 = .ok (.iload_n 1, 1) := by decide +kernel
theorem dX10_why_22 : decode cX10_why 22 = .ok (.invokevirtual 218, 3) := by decide +kernel
theorem dX10_why_25 : decode cX10_why 25 = .ok (.ifCond .le 5, 3) := by decide +kernel
theorem dX10_why_28 : decode cX10_why 28 = .ok (.iconst 0, 1) := by decide +kernel
theorem dX10_why_29 : decode cX10_why 29 = .ok (.ireturn, 1) := by decide +kernel
theorem dX10_why_30 : decode cX10_why 30 = .ok (.aload_n 0, 1) := by decide +kernel
theorem dX10_why_31 : decode cX10_why 31 = .ok (.getfield 7, 3) := by decide +kernel
theorem dX10_why_34 : decode cX10_why 34 = .ok (.iload_n 1, 1) := by decide +kernel
theorem dX10_why_35 : decode cX10_why 35 = .ok (.invokestatic 73, 3) := by decide +kernel
theorem dX10_why_38 : decode cX10_why 38 = .ok (.ifCond .ne 5, 3) := by decide +kernel
theorem dX10_why_41 : decode cX10_why 41 = .ok (.iconst 1, 1) := by decide +kernel
theorem dX10_why_42 : decode cX10_why 42 = .ok (.ireturn, 1) := by decide +kernel
theorem dX10_why_43 : decode cX10_why 43 = .ok (.iload_n 2, 1) := by decide +kernel
theorem dX10_why_44 : decode cX10_why 44 = .ok (.ifCond .ge 7, 3) := by decide +kernel
theorem dX10_why_47 : decode cX10_why 47 = .ok (.iconst 2, 1) := by decide +kernel
theorem dX10_why_48 : decode cX10_why 48 = .ok (.goto 12, 3) := by decide +kernel
theorem dX10_why_51 : decode cX10_why 51 = .ok (.aload_n 0, 1) := by decide +kernel
theorem dX10_why_52 : decode cX10_why 52 = .ok (.getfield 7, 3) := by decide +kernel
theorem dX10_why_55 : decode cX10_why 55 = .ok (.iload_n 1, 1) := by decide +kernel
theorem dX10_why_56 : decode cX10_why 56 = .ok (.iload_n 2, 1) := by decide +kernel
theorem dX10_why_57 : decode cX10_why 57 = .ok (.invokestatic 91, 3) := by decide +kernel
theorem dX10_why_60 : decode cX10_why 60 = .ok (.ireturn, 1) := by decide +kernel
theorem dX10_comesIn_0 : decode cX10_comesIn 0 = .ok (.aload_n 0, 1) := by decide +kernel
theorem dX10_comesIn_1 : decode cX10_comesIn 1 = .ok (.iload_n 1, 1) := by decide +kernel
theorem dX10_comesIn_2 : decode cX10_comesIn 2 = .ok (.invokevirtual 212, 3) := by decide +kernel
theorem dX10_comesIn_5 : decode cX10_comesIn 5 = .ok (.ifCond .ne 5, 3) := by decide +kernel
theorem dX10_comesIn_8 : decode cX10_comesIn 8 = .ok (.iconst (-1), 1) := by decide +kernel
theorem dX10_comesIn_9 : decode cX10_comesIn 9 = .ok (.ireturn, 1) := by decide +kernel
theorem dX10_comesIn_10 : decode cX10_comesIn 10 = .ok (.aload_n 0, 1) := by decide +kernel
theorem dX10_comesIn_11 : decode cX10_comesIn 11 = .ok (.invokevirtual 251, 3) := by decide +kernel
theorem dX10_comesIn_14 : decode cX10_comesIn 14 = .ok (.iconst 0, 1) := by decide +kernel
theorem dX10_comesIn_15 : decode cX10_comesIn 15 = .ok (.istore_n 2, 1) := by decide +kernel
theorem dX10_comesIn_16 : decode cX10_comesIn 16 = .ok (.iload_n 2, 1) := by decide +kernel
theorem dX10_comesIn_17 : decode cX10_comesIn 17 = .ok (.sipush 300, 3) := by decide +kernel
theorem dX10_comesIn_20 : decode cX10_comesIn 20 = .ok (.if_icmp .gt 30, 3) := by decide +kernel
theorem dX10_comesIn_23 : decode cX10_comesIn 23 = .ok (.aload_n 0, 1) := by decide +kernel
theorem dX10_comesIn_24 : decode cX10_comesIn 24 = .ok (.getfield 16, 3) := by decide +kernel
theorem dX10_comesIn_27 : decode cX10_comesIn 27 = .ok (.iload_n 1, 1) := by decide +kernel
theorem dX10_comesIn_28 : decode cX10_comesIn 28 = .ok (.iconst 0, 1) := by decide +kernel
theorem dX10_comesIn_29 : decode cX10_comesIn 29 = .ok (.invokestatic 107, 3) := by decide +kernel
theorem dX10_comesIn_32 : decode cX10_comesIn 32 = .ok (.ifCond .lt 5, 3) := by decide +kernel
theorem dX10_comesIn_35 : decode cX10_comesIn 35 = .ok (.iload_n 2, 1) := by decide +kernel
theorem dX10_comesIn_36 : decode cX10_comesIn 36 = .ok (.ireturn, 1) := by decide +kernel
theorem dX10_comesIn_37 : decode cX10_comesIn 37 = .ok (.aload_n 0, 1) := by decide +kernel
theorem dX10_comesIn_38 : decode cX10_comesIn 38 = .ok (.getfield 16, 3) := by decide +kernel
theorem dX10_comesIn_41 : decode cX10_comesIn 41 = .ok (.invokestatic 133, 3) := by decide +kernel
theorem dX10_comesIn_44 : decode cX10_comesIn 44 = .ok (.iinc 2 1, 3) := by decide +kernel
theorem dX10_comesIn_47 : decode cX10_comesIn 47 = .ok (.goto (-31), 3) := by decide +kernel
theorem dX10_comesIn_50 : decode cX10_comesIn 50 = .ok (.bipush (-2), 2) := by decide +kernel
theorem dX10_comesIn_52 : decode cX10_comesIn 52 = .ok (.ireturn, 1) := by decide +kernel
theorem dX10_doneInSpare_0 : decode cX10_doneInSpare 0 = .ok (.iconst 0, 1) := by decide +kernel
theorem dX10_doneInSpare_1 : decode cX10_doneInSpare 1 = .ok (.istore_n 1, 1) := by decide +kernel
theorem dX10_doneInSpare_2 : decode cX10_doneInSpare 2 = .ok (.iload_n 1, 1) := by decide +kernel
theorem dX10_doneInSpare_3 : decode cX10_doneInSpare 3 = .ok (.sipush 500, 3) := by decide +kernel
theorem dX10_doneInSpare_6 : decode cX10_doneInSpare 6 = .ok (.if_icmp .gt 28, 3) := by decide +kernel
theorem dX10_doneInSpare_9 : decode cX10_doneInSpare 9 = .ok (.aload_n 0, 1) := by decide +kernel
theorem dX10_doneInSpare_10 : decode cX10_doneInSpare 10 = .ok (.getfield 16, 3) := by decide +kernel
theorem dX10_doneInSpare_13 : decode cX10_doneInSpare 13 = .ok (.invokestatic 242, 3) := by decide +kernel
theorem dX10_doneInSpare_16 : decode cX10_doneInSpare 16 = .ok (.ifCond .ne 5, 3) := by decide +kernel
theorem dX10_doneInSpare_19 : decode cX10_doneInSpare 19 = .ok (.iload_n 1, 1) := by decide +kernel
theorem dX10_doneInSpare_20 : decode cX10_doneInSpare 20 = .ok (.ireturn, 1) := by decide +kernel
theorem dX10_doneInSpare_21 : decode cX10_doneInSpare 21 = .ok (.aload_n 0, 1) := by decide +kernel
theorem dX10_doneInSpare_22 : decode cX10_doneInSpare 22 = .ok (.getfield 16, 3) := by decide +kernel
theorem dX10_doneInSpare_25 : decode cX10_doneInSpare 25 = .ok (.invokestatic 133, 3) := by decide +kernel
theorem dX10_doneInSpare_28 : decode cX10_doneInSpare 28 = .ok (.iinc 1 1, 3) := by decide +kernel
theorem dX10_doneInSpare_31 : decode cX10_doneInSpare 31 = .ok (.goto (-29), 3) := by decide +kernel
theorem dX10_doneInSpare_34 : decode cX10_doneInSpare 34 = .ok (.bipush (-2), 2) := by decide +kernel
theorem dX10_doneInSpare_36 : decode cX10_doneInSpare 36 = .ok (.ireturn, 1) := by decide +kernel
theorem dX10_doneIn_0 : decode cX10_doneIn 0 = .ok (.aload_n 0, 1) := by decide +kernel
theorem dX10_doneIn_1 : decode cX10_doneIn 1 = .ok (.invokevirtual 251, 3) := by decide +kernel
theorem dX10_doneIn_4 : decode cX10_doneIn 4 = .ok (.aload_n 0, 1) := by decide +kernel
theorem dX10_doneIn_5 : decode cX10_doneIn 5 = .ok (.invokevirtual 254, 3) := by decide +kernel
theorem dX10_doneIn_8 : decode cX10_doneIn 8 = .ok (.ireturn, 1) := by decide +kernel
theorem dX10_isTold_0 : decode cX10_isTold 0 = .ok (.iload_n 0, 1) := by decide +kernel
theorem dX10_isTold_1 : decode cX10_isTold 1 = .ok (.iconst 0, 1) := by decide +kernel
theorem dX10_isTold_2 : decode cX10_isTold 2 = .ok (.iconst 5, 1) := by decide +kernel
theorem dX10_isTold_3 : decode cX10_isTold 3 = .ok (.invokestatic 58, 3) := by decide +kernel
theorem dX10_isTold_6 : decode cX10_isTold 6 = .ok (.ireturn, 1) := by decide +kernel
theorem dX10_passed_0 : decode cX10_passed 0 = .ok (.aload_n 0, 1) := by decide +kernel
theorem dX10_passed_1 : decode cX10_passed 1 = .ok (.getfield 16, 3) := by decide +kernel
theorem dX10_passed_4 : decode cX10_passed 4 = .ok (.bipush 9, 2) := by decide +kernel
theorem dX10_passed_6 : decode cX10_passed 6 = .ok (.iaload, 1) := by decide +kernel
theorem dX10_passed_7 : decode cX10_passed 7 = .ok (.istore_n 3, 1) := by decide +kernel
theorem dX10_passed_8 : decode cX10_passed 8 = .ok (.aload_n 0, 1) := by decide +kernel
theorem dX10_passed_9 : decode cX10_passed 9 = .ok (.getfield 16, 3) := by decide +kernel
theorem dX10_passed_12 : decode cX10_passed 12 = .ok (.bipush 10, 2) := by decide +kernel
theorem dX10_passed_14 : decode cX10_passed 14 = .ok (.iaload, 1) := by decide +kernel
theorem dX10_passed_15 : decode cX10_passed 15 = .ok (.istore 4, 2) := by decide +kernel
theorem dX10_passed_17 : decode cX10_passed 17 = .ok (.aload_n 0, 1) := by decide +kernel
theorem dX10_passed_18 : decode cX10_passed 18 = .ok (.getfield 16, 3) := by decide +kernel
theorem dX10_passed_21 : decode cX10_passed 21 = .ok (.bipush 16, 2) := by decide +kernel
theorem dX10_passed_23 : decode cX10_passed 23 = .ok (.iaload, 1) := by decide +kernel
theorem dX10_passed_24 : decode cX10_passed 24 = .ok (.istore 5, 2) := by decide +kernel
theorem dX10_passed_26 : decode cX10_passed 26 = .ok (.aload_n 0, 1) := by decide +kernel
theorem dX10_passed_27 : decode cX10_passed 27 = .ok (.getfield 16, 3) := by decide +kernel
theorem dX10_passed_30 : decode cX10_passed 30 = .ok (.bipush 15, 2) := by decide +kernel
theorem dX10_passed_32 : decode cX10_passed 32 = .ok (.iaload, 1) := by decide +kernel
theorem dX10_passed_33 : decode cX10_passed 33 = .ok (.istore 6, 2) := by decide +kernel
theorem dX10_passed_35 : decode cX10_passed 35 = .ok (.aload_n 0, 1) := by decide +kernel
theorem dX10_passed_36 : decode cX10_passed 36 = .ok (.getfield 16, 3) := by decide +kernel
theorem dX10_passed_39 : decode cX10_passed 39 = .ok (.bipush 12, 2) := by decide +kernel
theorem dX10_passed_41 : decode cX10_passed 41 = .ok (.iaload, 1) := by decide +kernel
theorem dX10_passed_42 : decode cX10_passed 42 = .ok (.istore 7, 2) := by decide +kernel
theorem dX10_passed_44 : decode cX10_passed 44 = .ok (.aload_n 0, 1) := by decide +kernel
theorem dX10_passed_45 : decode cX10_passed 45 = .ok (.getfield 16, 3) := by decide +kernel
theorem dX10_passed_48 : decode cX10_passed 48 = .ok (.iload_n 1, 1) := by decide +kernel
theorem dX10_passed_49 : decode cX10_passed 49 = .ok (.invokestatic 228, 3) := by decide +kernel
theorem dX10_passed_52 : decode cX10_passed 52 = .ok (.iload_n 2, 1) := by decide +kernel
theorem dX10_passed_53 : decode cX10_passed 53 = .ok (.tableswitch 85 0 4 #[35, 45, 56, 67, 74], 35) := by decide +kernel
theorem dX10_passed_88 : decode cX10_passed 88 = .ok (.aload_n 0, 1) := by decide +kernel
theorem dX10_passed_89 : decode cX10_passed 89 = .ok (.getfield 16, 3) := by decide +kernel
theorem dX10_passed_92 : decode cX10_passed 92 = .ok (.bipush 9, 2) := by decide +kernel
theorem dX10_passed_94 : decode cX10_passed 94 = .ok (.iaload, 1) := by decide +kernel
theorem dX10_passed_95 : decode cX10_passed 95 = .ok (.iload_n 3, 1) := by decide +kernel
theorem dX10_passed_96 : decode cX10_passed 96 = .ok (.isub, 1) := by decide +kernel
theorem dX10_passed_97 : decode cX10_passed 97 = .ok (.ireturn, 1) := by decide +kernel
theorem dX10_passed_98 : decode cX10_passed 98 = .ok (.aload_n 0, 1) := by decide +kernel
theorem dX10_passed_99 : decode cX10_passed 99 = .ok (.getfield 16, 3) := by decide +kernel
theorem dX10_passed_102 : decode cX10_passed 102 = .ok (.bipush 10, 2) := by decide +kernel
theorem dX10_passed_104 : decode cX10_passed 104 = .ok (.iaload, 1) := by decide +kernel
theorem dX10_passed_105 : decode cX10_passed 105 = .ok (.iload 4, 2) := by decide +kernel
theorem dX10_passed_107 : decode cX10_passed 107 = .ok (.isub, 1) := by decide +kernel
theorem dX10_passed_108 : decode cX10_passed 108 = .ok (.ireturn, 1) := by decide +kernel
theorem dX10_passed_109 : decode cX10_passed 109 = .ok (.aload_n 0, 1) := by decide +kernel
theorem dX10_passed_110 : decode cX10_passed 110 = .ok (.getfield 16, 3) := by decide +kernel
theorem dX10_passed_113 : decode cX10_passed 113 = .ok (.bipush 16, 2) := by decide +kernel
theorem dX10_passed_115 : decode cX10_passed 115 = .ok (.iaload, 1) := by decide +kernel
theorem dX10_passed_116 : decode cX10_passed 116 = .ok (.iload 5, 2) := by decide +kernel
theorem dX10_passed_118 : decode cX10_passed 118 = .ok (.isub, 1) := by decide +kernel
theorem dX10_passed_119 : decode cX10_passed 119 = .ok (.ireturn, 1) := by decide +kernel
theorem dX10_passed_120 : decode cX10_passed 120 = .ok (.aload_n 0, 1) := by decide +kernel
theorem dX10_passed_121 : decode cX10_passed 121 = .ok (.getfield 16, 3) := by decide +kernel
theorem dX10_passed_124 : decode cX10_passed 124 = .ok (.iconst 5, 1) := by decide +kernel
theorem dX10_passed_125 : decode cX10_passed 125 = .ok (.iaload, 1) := by decide +kernel
theorem dX10_passed_126 : decode cX10_passed 126 = .ok (.ireturn, 1) := by decide +kernel
theorem dX10_passed_127 : decode cX10_passed 127 = .ok (.aload_n 0, 1) := by decide +kernel
theorem dX10_passed_128 : decode cX10_passed 128 = .ok (.getfield 16, 3) := by decide +kernel
theorem dX10_passed_131 : decode cX10_passed 131 = .ok (.bipush 15, 2) := by decide +kernel
theorem dX10_passed_133 : decode cX10_passed 133 = .ok (.iaload, 1) := by decide +kernel
theorem dX10_passed_134 : decode cX10_passed 134 = .ok (.iload 6, 2) := by decide +kernel
theorem dX10_passed_136 : decode cX10_passed 136 = .ok (.isub, 1) := by decide +kernel
theorem dX10_passed_137 : decode cX10_passed 137 = .ok (.ireturn, 1) := by decide +kernel
theorem dX10_passed_138 : decode cX10_passed 138 = .ok (.aload_n 0, 1) := by decide +kernel
theorem dX10_passed_139 : decode cX10_passed 139 = .ok (.getfield 16, 3) := by decide +kernel
theorem dX10_passed_142 : decode cX10_passed 142 = .ok (.bipush 12, 2) := by decide +kernel
theorem dX10_passed_144 : decode cX10_passed 144 = .ok (.iaload, 1) := by decide +kernel
theorem dX10_passed_145 : decode cX10_passed 145 = .ok (.iload 7, 2) := by decide +kernel
theorem dX10_passed_147 : decode cX10_passed 147 = .ok (.isub, 1) := by decide +kernel
theorem dX10_passed_148 : decode cX10_passed 148 = .ok (.ireturn, 1) := by decide +kernel
theorem dX10_ifPassed_0 : decode cX10_ifPassed 0 = .ok (.iload_n 1, 1) := by decide +kernel
theorem dX10_ifPassed_1 : decode cX10_ifPassed 1 = .ok (.invokestatic 257, 3) := by decide +kernel
theorem dX10_ifPassed_4 : decode cX10_ifPassed 4 = .ok (.ifCond .eq 10, 3) := by decide +kernel
theorem dX10_ifPassed_7 : decode cX10_ifPassed 7 = .ok (.iload_n 2, 1) := by decide +kernel
theorem dX10_ifPassed_8 : decode cX10_ifPassed 8 = .ok (.invokestatic 260, 3) := by decide +kernel
theorem dX10_ifPassed_11 : decode cX10_ifPassed 11 = .ok (.ifCond .ne 5, 3) := by decide +kernel
theorem dX10_ifPassed_14 : decode cX10_ifPassed 14 = .ok (.iconst (-1), 1) := by decide +kernel
theorem dX10_ifPassed_15 : decode cX10_ifPassed 15 = .ok (.ireturn, 1) := by decide +kernel
theorem dX10_ifPassed_16 : decode cX10_ifPassed 16 = .ok (.aload_n 0, 1) := by decide +kernel
theorem dX10_ifPassed_17 : decode cX10_ifPassed 17 = .ok (.invokevirtual 251, 3) := by decide +kernel
theorem dX10_ifPassed_20 : decode cX10_ifPassed 20 = .ok (.aload_n 0, 1) := by decide +kernel
theorem dX10_ifPassed_21 : decode cX10_ifPassed 21 = .ok (.iload_n 1, 1) := by decide +kernel
theorem dX10_ifPassed_22 : decode cX10_ifPassed 22 = .ok (.iload_n 2, 1) := by decide +kernel
theorem dX10_ifPassed_23 : decode cX10_ifPassed 23 = .ok (.invokevirtual 263, 3) := by decide +kernel
theorem dX10_ifPassed_26 : decode cX10_ifPassed 26 = .ok (.ireturn, 1) := by decide +kernel
theorem dX10_ifRule_0 : decode cX10_ifRule 0 = .ok (.iload_n 1, 1) := by decide +kernel
theorem dX10_ifRule_1 : decode cX10_ifRule 1 = .ok (.iload_n 2, 1) := by decide +kernel
theorem dX10_ifRule_2 : decode cX10_ifRule 2 = .ok (.invokestatic 231, 3) := by decide +kernel
theorem dX10_ifRule_5 : decode cX10_ifRule 5 = .ok (.ifCond .eq 18, 3) := by decide +kernel
theorem dX10_ifRule_8 : decode cX10_ifRule 8 = .ok (.iload_n 3, 1) := by decide +kernel
theorem dX10_ifRule_9 : decode cX10_ifRule 9 = .ok (.invokestatic 257, 3) := by decide +kernel
theorem dX10_ifRule_12 : decode cX10_ifRule 12 = .ok (.ifCond .eq 11, 3) := by decide +kernel
theorem dX10_ifRule_15 : decode cX10_ifRule 15 = .ok (.iload 4, 2) := by decide +kernel
theorem dX10_ifRule_17 : decode cX10_ifRule 17 = .ok (.invokestatic 260, 3) := by decide +kernel
theorem dX10_ifRule_20 : decode cX10_ifRule 20 = .ok (.ifCond .ne 5, 3) := by decide +kernel
theorem dX10_ifRule_23 : decode cX10_ifRule 23 = .ok (.iconst (-1), 1) := by decide +kernel
theorem dX10_ifRule_24 : decode cX10_ifRule 24 = .ok (.ireturn, 1) := by decide +kernel
theorem dX10_ifRule_25 : decode cX10_ifRule 25 = .ok (.aload_n 0, 1) := by decide +kernel
theorem dX10_ifRule_26 : decode cX10_ifRule 26 = .ok (.invokevirtual 251, 3) := by decide +kernel
theorem dX10_ifRule_29 : decode cX10_ifRule 29 = .ok (.aload_n 0, 1) := by decide +kernel
theorem dX10_ifRule_30 : decode cX10_ifRule 30 = .ok (.getfield 16, 3) := by decide +kernel
theorem dX10_ifRule_33 : decode cX10_ifRule 33 = .ok (.iload_n 1, 1) := by decide +kernel
theorem dX10_ifRule_34 : decode cX10_ifRule 34 = .ok (.iload_n 2, 1) := by decide +kernel
theorem dX10_ifRule_35 : decode cX10_ifRule 35 = .ok (.iastore, 1) := by decide +kernel
theorem dX10_ifRule_36 : decode cX10_ifRule 36 = .ok (.aload_n 0, 1) := by decide +kernel
theorem dX10_ifRule_37 : decode cX10_ifRule 37 = .ok (.iload_n 3, 1) := by decide +kernel
theorem dX10_ifRule_38 : decode cX10_ifRule 38 = .ok (.iload 4, 2) := by decide +kernel
theorem dX10_ifRule_40 : decode cX10_ifRule 40 = .ok (.invokevirtual 263, 3) := by decide +kernel
theorem dX10_ifRule_43 : decode cX10_ifRule 43 = .ok (.ireturn, 1) := by decide +kernel
theorem dX10_ifShut_0 : decode cX10_ifShut 0 = .ok (.aload_n 0, 1) := by decide +kernel
theorem dX10_ifShut_1 : decode cX10_ifShut 1 = .ok (.iload_n 1, 1) := by decide +kernel
theorem dX10_ifShut_2 : decode cX10_ifShut 2 = .ok (.invokevirtual 212, 3) := by decide +kernel
theorem dX10_ifShut_5 : decode cX10_ifShut 5 = .ok (.ifCond .eq 17, 3) := by decide +kernel
theorem dX10_ifShut_8 : decode cX10_ifShut 8 = .ok (.iload_n 2, 1) := by decide +kernel
theorem dX10_ifShut_9 : decode cX10_ifShut 9 = .ok (.invokestatic 257, 3) := by decide +kernel
theorem dX10_ifShut_12 : decode cX10_ifShut 12 = .ok (.ifCond .eq 10, 3) := by decide +kernel
theorem dX10_ifShut_15 : decode cX10_ifShut 15 = .ok (.iload_n 3, 1) := by decide +kernel
theorem dX10_ifShut_16 : decode cX10_ifShut 16 = .ok (.invokestatic 260, 3) := by decide +kernel
theorem dX10_ifShut_19 : decode cX10_ifShut 19 = .ok (.ifCond .ne 5, 3) := by decide +kernel
theorem dX10_ifShut_22 : decode cX10_ifShut 22 = .ok (.iconst (-1), 1) := by decide +kernel
theorem dX10_ifShut_23 : decode cX10_ifShut 23 = .ok (.ireturn, 1) := by decide +kernel
theorem dX10_ifShut_24 : decode cX10_ifShut 24 = .ok (.aload_n 0, 1) := by decide +kernel
theorem dX10_ifShut_25 : decode cX10_ifShut 25 = .ok (.invokevirtual 251, 3) := by decide +kernel
theorem dX10_ifShut_28 : decode cX10_ifShut 28 = .ok (.aload_n 0, 1) := by decide +kernel
theorem dX10_ifShut_29 : decode cX10_ifShut 29 = .ok (.getfield 16, 3) := by decide +kernel
theorem dX10_ifShut_32 : decode cX10_ifShut 32 = .ok (.iload_n 1, 1) := by decide +kernel
theorem dX10_ifShut_33 : decode cX10_ifShut 33 = .ok (.iconst 1, 1) := by decide +kernel
theorem dX10_ifShut_34 : decode cX10_ifShut 34 = .ok (.aload_n 0, 1) := by decide +kernel
theorem dX10_ifShut_35 : decode cX10_ifShut 35 = .ok (.getfield 16, 3) := by decide +kernel
theorem dX10_ifShut_38 : decode cX10_ifShut 38 = .ok (.iload_n 1, 1) := by decide +kernel
theorem dX10_ifShut_39 : decode cX10_ifShut 39 = .ok (.iconst 2, 1) := by decide +kernel
theorem dX10_ifShut_40 : decode cX10_ifShut 40 = .ok (.invokestatic 54, 3) := by decide +kernel
theorem dX10_ifShut_43 : decode cX10_ifShut 43 = .ok (.iaload, 1) := by decide +kernel
theorem dX10_ifShut_44 : decode cX10_ifShut 44 = .ok (.isub, 1) := by decide +kernel
theorem dX10_ifShut_45 : decode cX10_ifShut 45 = .ok (.invokestatic 222, 3) := by decide +kernel
theorem dX10_ifShut_48 : decode cX10_ifShut 48 = .ok (.pop, 1) := by decide +kernel
theorem dX10_ifShut_49 : decode cX10_ifShut 49 = .ok (.aload_n 0, 1) := by decide +kernel
theorem dX10_ifShut_50 : decode cX10_ifShut 50 = .ok (.iload_n 2, 1) := by decide +kernel
theorem dX10_ifShut_51 : decode cX10_ifShut 51 = .ok (.iload_n 3, 1) := by decide +kernel
theorem dX10_ifShut_52 : decode cX10_ifShut 52 = .ok (.invokevirtual 263, 3) := by decide +kernel
theorem dX10_ifShut_55 : decode cX10_ifShut 55 = .ok (.ireturn, 1) := by decide +kernel
theorem dX10_bestSpeak_0 : decode cX10_bestSpeak 0 = .ok (.iload_n 1, 1) := by decide +kernel
theorem dX10_bestSpeak_1 : decode cX10_bestSpeak 1 = .ok (.invokestatic 257, 3) := by decide +kernel
theorem dX10_bestSpeak_4 : decode cX10_bestSpeak 4 = .ok (.ifCond .ne 5, 3) := by decide +kernel
theorem dX10_bestSpeak_7 : decode cX10_bestSpeak 7 = .ok (.iconst (-1), 1) := by decide +kernel
theorem dX10_bestSpeak_8 : decode cX10_bestSpeak 8 = .ok (.ireturn, 1) := by decide +kernel
theorem dX10_bestSpeak_9 : decode cX10_bestSpeak 9 = .ok (.bipush (-2), 2) := by decide +kernel
theorem dX10_bestSpeak_11 : decode cX10_bestSpeak 11 = .ok (.istore_n 2, 1) := by decide +kernel
theorem dX10_bestSpeak_12 : decode cX10_bestSpeak 12 = .ok (.iconst 0, 1) := by decide +kernel
theorem dX10_bestSpeak_13 : decode cX10_bestSpeak 13 = .ok (.istore_n 3, 1) := by decide +kernel
theorem dX10_bestSpeak_14 : decode cX10_bestSpeak 14 = .ok (.iconst 1, 1) := by decide +kernel
theorem dX10_bestSpeak_15 : decode cX10_bestSpeak 15 = .ok (.istore 4, 2) := by decide +kernel
theorem dX10_bestSpeak_17 : decode cX10_bestSpeak 17 = .ok (.iload 4, 2) := by decide +kernel
theorem dX10_bestSpeak_19 : decode cX10_bestSpeak 19 = .ok (.bipush 20, 2) := by decide +kernel
theorem dX10_bestSpeak_21 : decode cX10_bestSpeak 21 = .ok (.if_icmp .gt 48, 3) := by decide +kernel
theorem dX10_bestSpeak_24 : decode cX10_bestSpeak 24 = .ok (.aload_n 0, 1) := by decide +kernel
theorem dX10_bestSpeak_25 : decode cX10_bestSpeak 25 = .ok (.invokevirtual 251, 3) := by decide +kernel
theorem dX10_bestSpeak_28 : decode cX10_bestSpeak 28 = .ok (.aload_n 0, 1) := by decide +kernel
theorem dX10_bestSpeak_29 : decode cX10_bestSpeak 29 = .ok (.getfield 16, 3) := by decide +kernel
theorem dX10_bestSpeak_32 : decode cX10_bestSpeak 32 = .ok (.iconst 0, 1) := by decide +kernel
theorem dX10_bestSpeak_33 : decode cX10_bestSpeak 33 = .ok (.iload 4, 2) := by decide +kernel
theorem dX10_bestSpeak_35 : decode cX10_bestSpeak 35 = .ok (.iastore, 1) := by decide +kernel
theorem dX10_bestSpeak_36 : decode cX10_bestSpeak 36 = .ok (.aload_n 0, 1) := by decide +kernel
theorem dX10_bestSpeak_37 : decode cX10_bestSpeak 37 = .ok (.iload_n 1, 1) := by decide +kernel
theorem dX10_bestSpeak_38 : decode cX10_bestSpeak 38 = .ok (.iconst 0, 1) := by decide +kernel
theorem dX10_bestSpeak_39 : decode cX10_bestSpeak 39 = .ok (.invokevirtual 263, 3) := by decide +kernel
theorem dX10_bestSpeak_42 : decode cX10_bestSpeak 42 = .ok (.istore 5, 2) := by decide +kernel
theorem dX10_bestSpeak_44 : decode cX10_bestSpeak 44 = .ok (.iload_n 2, 1) := by decide +kernel
theorem dX10_bestSpeak_45 : decode cX10_bestSpeak 45 = .ok (.ifCond .lt 12, 3) := by decide +kernel
theorem dX10_bestSpeak_48 : decode cX10_bestSpeak 48 = .ok (.iload 5, 2) := by decide +kernel
theorem dX10_bestSpeak_50 : decode cX10_bestSpeak 50 = .ok (.iload_n 3, 1) := by decide +kernel
theorem dX10_bestSpeak_51 : decode cX10_bestSpeak 51 = .ok (.if_icmp .gt 6, 3) := by decide +kernel
theorem dX10_bestSpeak_54 : decode cX10_bestSpeak 54 = .ok (.goto 9, 3) := by decide +kernel
theorem dX10_bestSpeak_57 : decode cX10_bestSpeak 57 = .ok (.iload 4, 2) := by decide +kernel
theorem dX10_bestSpeak_59 : decode cX10_bestSpeak 59 = .ok (.istore_n 2, 1) := by decide +kernel
theorem dX10_bestSpeak_60 : decode cX10_bestSpeak 60 = .ok (.iload 5, 2) := by decide +kernel
theorem dX10_bestSpeak_62 : decode cX10_bestSpeak 62 = .ok (.istore_n 3, 1) := by decide +kernel
theorem dX10_bestSpeak_63 : decode cX10_bestSpeak 63 = .ok (.iinc 4 1, 3) := by decide +kernel
theorem dX10_bestSpeak_66 : decode cX10_bestSpeak 66 = .ok (.goto (-49), 3) := by decide +kernel
theorem dX10_bestSpeak_69 : decode cX10_bestSpeak 69 = .ok (.iload_n 2, 1) := by decide +kernel
theorem dX10_bestSpeak_70 : decode cX10_bestSpeak 70 = .ok (.ireturn, 1) := by decide +kernel
theorem dX10_leastQuota_0 : decode cX10_leastQuota 0 = .ok (.aload_n 0, 1) := by decide +kernel
theorem dX10_leastQuota_1 : decode cX10_leastQuota 1 = .ok (.invokevirtual 266, 3) := by decide +kernel
theorem dX10_leastQuota_4 : decode cX10_leastQuota 4 = .ok (.istore_n 1, 1) := by decide +kernel
theorem dX10_leastQuota_5 : decode cX10_leastQuota 5 = .ok (.iload_n 1, 1) := by decide +kernel
theorem dX10_leastQuota_6 : decode cX10_leastQuota 6 = .ok (.ifCond .ge 6, 3) := by decide +kernel
theorem dX10_leastQuota_9 : decode cX10_leastQuota 9 = .ok (.bipush (-2), 2) := by decide +kernel
theorem dX10_leastQuota_11 : decode cX10_leastQuota 11 = .ok (.ireturn, 1) := by decide +kernel
theorem dX10_leastQuota_12 : decode cX10_leastQuota 12 = .ok (.iconst 1, 1) := by decide +kernel
theorem dX10_leastQuota_13 : decode cX10_leastQuota 13 = .ok (.istore_n 2, 1) := by decide +kernel
theorem dX10_leastQuota_14 : decode cX10_leastQuota 14 = .ok (.iload_n 2, 1) := by decide +kernel
theorem dX10_leastQuota_15 : decode cX10_leastQuota 15 = .ok (.bipush 60, 2) := by decide +kernel
theorem dX10_leastQuota_17 : decode cX10_leastQuota 17 = .ok (.if_icmp .gt 34, 3) := by decide +kernel
theorem dX10_leastQuota_20 : decode cX10_leastQuota 20 = .ok (.aload_n 0, 1) := by decide +kernel
theorem dX10_leastQuota_21 : decode cX10_leastQuota 21 = .ok (.invokevirtual 251, 3) := by decide +kernel
theorem dX10_leastQuota_24 : decode cX10_leastQuota 24 = .ok (.aload_n 0, 1) := by decide +kernel
theorem dX10_leastQuota_25 : decode cX10_leastQuota 25 = .ok (.getfield 16, 3) := by decide +kernel
theorem dX10_leastQuota_28 : decode cX10_leastQuota 28 = .ok (.iconst 2, 1) := by decide +kernel
theorem dX10_leastQuota_29 : decode cX10_leastQuota 29 = .ok (.iload_n 2, 1) := by decide +kernel
theorem dX10_leastQuota_30 : decode cX10_leastQuota 30 = .ok (.iastore, 1) := by decide +kernel
theorem dX10_leastQuota_31 : decode cX10_leastQuota 31 = .ok (.aload_n 0, 1) := by decide +kernel
theorem dX10_leastQuota_32 : decode cX10_leastQuota 32 = .ok (.invokevirtual 254, 3) := by decide +kernel
theorem dX10_leastQuota_35 : decode cX10_leastQuota 35 = .ok (.iconst 0, 1) := by decide +kernel
theorem dX10_leastQuota_36 : decode cX10_leastQuota 36 = .ok (.iload_n 1, 1) := by decide +kernel
theorem dX10_leastQuota_37 : decode cX10_leastQuota 37 = .ok (.invokestatic 58, 3) := by decide +kernel
theorem dX10_leastQuota_40 : decode cX10_leastQuota 40 = .ok (.ifCond .eq 5, 3) := by decide +kernel
theorem dX10_leastQuota_43 : decode cX10_leastQuota 43 = .ok (.iload_n 2, 1) := by decide +kernel
theorem dX10_leastQuota_44 : decode cX10_leastQuota 44 = .ok (.ireturn, 1) := by decide +kernel
theorem dX10_leastQuota_45 : decode cX10_leastQuota 45 = .ok (.iinc 2 1, 3) := by decide +kernel
theorem dX10_leastQuota_48 : decode cX10_leastQuota 48 = .ok (.goto (-34), 3) := by decide +kernel
theorem dX10_leastQuota_51 : decode cX10_leastQuota 51 = .ok (.bipush (-2), 2) := by decide +kernel
theorem dX10_leastQuota_53 : decode cX10_leastQuota 53 = .ok (.ireturn, 1) := by decide +kernel
theorem dX10_log_0 : decode cX10_log 0 = .ok (.iload_n 1, 1) := by decide +kernel
theorem dX10_log_1 : decode cX10_log 1 = .ok (.ifCond .lt 12, 3) := by decide +kernel
theorem dX10_log_4 : decode cX10_log 4 = .ok (.iload_n 2, 1) := by decide +kernel
theorem dX10_log_5 : decode cX10_log 5 = .ok (.iconst 0, 1) := by decide +kernel
theorem dX10_log_6 : decode cX10_log 6 = .ok (.iconst 2, 1) := by decide +kernel
theorem dX10_log_7 : decode cX10_log 7 = .ok (.invokestatic 58, 3) := by decide +kernel
theorem dX10_log_10 : decode cX10_log 10 = .ok (.ifCond .ne 5, 3) := by decide +kernel
theorem dX10_log_13 : decode cX10_log 13 = .ok (.iconst (-1), 1) := by decide +kernel
theorem dX10_log_14 : decode cX10_log 14 = .ok (.ireturn, 1) := by decide +kernel
theorem dX10_log_15 : decode cX10_log 15 = .ok (.iload_n 1, 1) := by decide +kernel
theorem dX10_log_16 : decode cX10_log 16 = .ok (.aload_n 0, 1) := by decide +kernel
theorem dX10_log_17 : decode cX10_log 17 = .ok (.getfield 7, 3) := by decide +kernel
theorem dX10_log_20 : decode cX10_log 20 = .ok (.sipush 215, 3) := by decide +kernel
theorem dX10_log_23 : decode cX10_log 23 = .ok (.iaload, 1) := by decide +kernel
theorem dX10_log_24 : decode cX10_log 24 = .ok (.if_icmp .ge 20, 3) := by decide +kernel
theorem dX10_log_27 : decode cX10_log 27 = .ok (.aload_n 0, 1) := by decide +kernel
theorem dX10_log_28 : decode cX10_log 28 = .ok (.getfield 7, 3) := by decide +kernel
theorem dX10_log_31 : decode cX10_log 31 = .ok (.sipush 216, 3) := by decide +kernel
theorem dX10_log_34 : decode cX10_log 34 = .ok (.iconst 3, 1) := by decide +kernel
theorem dX10_log_35 : decode cX10_log 35 = .ok (.iload_n 1, 1) := by decide +kernel
theorem dX10_log_36 : decode cX10_log 36 = .ok (.imul, 1) := by decide +kernel
theorem dX10_log_37 : decode cX10_log 37 = .ok (.iadd, 1) := by decide +kernel
theorem dX10_log_38 : decode cX10_log 38 = .ok (.iload_n 2, 1) := by decide +kernel
theorem dX10_log_39 : decode cX10_log 39 = .ok (.iadd, 1) := by decide +kernel
theorem dX10_log_40 : decode cX10_log 40 = .ok (.iaload, 1) := by decide +kernel
theorem dX10_log_41 : decode cX10_log 41 = .ok (.goto 5, 3) := by decide +kernel
theorem dX10_log_44 : decode cX10_log 44 = .ok (.bipush (-2), 2) := by decide +kernel
theorem dX10_log_46 : decode cX10_log 46 = .ok (.ireturn, 1) := by decide +kernel
theorem dX10_spoken_0 : decode cX10_spoken 0 = .ok (.aload_n 0, 1) := by decide +kernel
theorem dX10_spoken_1 : decode cX10_spoken 1 = .ok (.getfield 7, 3) := by decide +kernel
theorem dX10_spoken_4 : decode cX10_spoken 4 = .ok (.iconst 3, 1) := by decide +kernel
theorem dX10_spoken_5 : decode cX10_spoken 5 = .ok (.iaload, 1) := by decide +kernel
theorem dX10_spoken_6 : decode cX10_spoken 6 = .ok (.ifCond .ne 7, 3) := by decide +kernel
theorem dX10_spoken_9 : decode cX10_spoken 9 = .ok (.fconst 0, 1) := by decide +kernel
theorem dX10_spoken_10 : decode cX10_spoken 10 = .ok (.goto 19, 3) := by decide +kernel
theorem dX10_spoken_13 : decode cX10_spoken 13 = .ok (.aload_n 0, 1) := by decide +kernel
theorem dX10_spoken_14 : decode cX10_spoken 14 = .ok (.getfield 7, 3) := by decide +kernel
theorem dX10_spoken_17 : decode cX10_spoken 17 = .ok (.bipush 16, 2) := by decide +kernel
theorem dX10_spoken_19 : decode cX10_spoken 19 = .ok (.iaload, 1) := by decide +kernel
theorem dX10_spoken_20 : decode cX10_spoken 20 = .ok (.i2f, 1) := by decide +kernel
theorem dX10_spoken_21 : decode cX10_spoken 21 = .ok (.aload_n 0, 1) := by decide +kernel
theorem dX10_spoken_22 : decode cX10_spoken 22 = .ok (.getfield 7, 3) := by decide +kernel
theorem dX10_spoken_25 : decode cX10_spoken 25 = .ok (.iconst 3, 1) := by decide +kernel
theorem dX10_spoken_26 : decode cX10_spoken 26 = .ok (.iaload, 1) := by decide +kernel
theorem dX10_spoken_27 : decode cX10_spoken 27 = .ok (.i2f, 1) := by decide +kernel
theorem dX10_spoken_28 : decode cX10_spoken 28 = .ok (.fdiv, 1) := by decide +kernel
theorem dX10_spoken_29 : decode cX10_spoken 29 = .ok (.freturn, 1) := by decide +kernel
theorem dX10_meanLength_0 : decode cX10_meanLength 0 = .ok (.aload_n 0, 1) := by decide +kernel
theorem dX10_meanLength_1 : decode cX10_meanLength 1 = .ok (.getfield 7, 3) := by decide +kernel
theorem dX10_meanLength_4 : decode cX10_meanLength 4 = .ok (.invokestatic 242, 3) := by decide +kernel
theorem dX10_meanLength_7 : decode cX10_meanLength 7 = .ok (.istore_n 1, 1) := by decide +kernel
theorem dX10_meanLength_8 : decode cX10_meanLength 8 = .ok (.iload_n 1, 1) := by decide +kernel
theorem dX10_meanLength_9 : decode cX10_meanLength 9 = .ok (.ifCond .ne 7, 3) := by decide +kernel
theorem dX10_meanLength_12 : decode cX10_meanLength 12 = .ok (.dconst 0, 1) := by decide +kernel
theorem dX10_meanLength_13 : decode cX10_meanLength 13 = .ok (.goto 11, 3) := by decide +kernel
theorem dX10_meanLength_16 : decode cX10_meanLength 16 = .ok (.aload_n 0, 1) := by decide +kernel
theorem dX10_meanLength_17 : decode cX10_meanLength 17 = .ok (.invokevirtual 245, 3) := by decide +kernel
theorem dX10_meanLength_20 : decode cX10_meanLength 20 = .ok (.i2d, 1) := by decide +kernel
theorem dX10_meanLength_21 : decode cX10_meanLength 21 = .ok (.iload_n 1, 1) := by decide +kernel
theorem dX10_meanLength_22 : decode cX10_meanLength 22 = .ok (.i2d, 1) := by decide +kernel
theorem dX10_meanLength_23 : decode cX10_meanLength 23 = .ok (.ddiv, 1) := by decide +kernel
theorem dX10_meanLength_24 : decode cX10_meanLength 24 = .ok (.dreturn, 1) := by decide +kernel
theorem dX10_puts_0 : decode cX10_puts 0 = .ok (.aload_n 0, 1) := by decide +kernel
theorem dX10_puts_1 : decode cX10_puts 1 = .ok (.getfield 36, 3) := by decide +kernel
theorem dX10_puts_4 : decode cX10_puts 4 = .ok (.aload_n 0, 1) := by decide +kernel
theorem dX10_puts_5 : decode cX10_puts 5 = .ok (.getfield 269, 3) := by decide +kernel
theorem dX10_puts_8 : decode cX10_puts 8 = .ok (.iload_n 1, 1) := by decide +kernel
theorem dX10_puts_9 : decode cX10_puts 9 = .ok (.iastore, 1) := by decide +kernel
theorem dX10_puts_10 : decode cX10_puts 10 = .ok (.aload_n 0, 1) := by decide +kernel
theorem dX10_puts_11 : decode cX10_puts 11 = .ok (.dup, 1) := by decide +kernel
theorem dX10_puts_12 : decode cX10_puts 12 = .ok (.getfield 269, 3) := by decide +kernel
theorem dX10_puts_15 : decode cX10_puts 15 = .ok (.iconst 1, 1) := by decide +kernel
theorem dX10_puts_16 : decode cX10_puts 16 = .ok (.iadd, 1) := by decide +kernel
theorem dX10_puts_17 : decode cX10_puts 17 = .ok (.putfield 269, 3) := by decide +kernel
theorem dX10_puts_20 : decode cX10_puts 20 = .ok (.return_, 1) := by decide +kernel
theorem dX10_writtenAt_0 : decode cX10_writtenAt 0 = .ok (.iload_n 1, 1) := by decide +kernel
theorem dX10_writtenAt_1 : decode cX10_writtenAt 1 = .ok (.aload_n 0, 1) := by decide +kernel
theorem dX10_writtenAt_2 : decode cX10_writtenAt 2 = .ok (.getfield 269, 3) := by decide +kernel
theorem dX10_writtenAt_5 : decode cX10_writtenAt 5 = .ok (.if_icmp .ge 12, 3) := by decide +kernel
theorem dX10_writtenAt_8 : decode cX10_writtenAt 8 = .ok (.aload_n 0, 1) := by decide +kernel
theorem dX10_writtenAt_9 : decode cX10_writtenAt 9 = .ok (.getfield 36, 3) := by decide +kernel
theorem dX10_writtenAt_12 : decode cX10_writtenAt 12 = .ok (.iload_n 1, 1) := by decide +kernel
theorem dX10_writtenAt_13 : decode cX10_writtenAt 13 = .ok (.iaload, 1) := by decide +kernel
theorem dX10_writtenAt_14 : decode cX10_writtenAt 14 = .ok (.goto 5, 3) := by decide +kernel
theorem dX10_writtenAt_17 : decode cX10_writtenAt 17 = .ok (.bipush (-2), 2) := by decide +kernel
theorem dX10_writtenAt_19 : decode cX10_writtenAt 19 = .ok (.ireturn, 1) := by decide +kernel
theorem dX10_putsNumber_0 : decode cX10_putsNumber 0 = .ok (.iconst 1, 1) := by decide +kernel
theorem dX10_putsNumber_1 : decode cX10_putsNumber 1 = .ok (.istore_n 2, 1) := by decide +kernel
theorem dX10_putsNumber_2 : decode cX10_putsNumber 2 = .ok (.iload_n 2, 1) := by decide +kernel
theorem dX10_putsNumber_3 : decode cX10_putsNumber 3 = .ok (.iload_n 1, 1) := by decide +kernel
theorem dX10_putsNumber_4 : decode cX10_putsNumber 4 = .ok (.bipush 10, 2) := by decide +kernel
theorem dX10_putsNumber_6 : decode cX10_putsNumber 6 = .ok (.idiv, 1) := by decide +kernel
theorem dX10_putsNumber_7 : decode cX10_putsNumber 7 = .ok (.if_icmp .gt 11, 3) := by decide +kernel
theorem dX10_putsNumber_10 : decode cX10_putsNumber 10 = .ok (.iload_n 2, 1) := by decide +kernel
theorem dX10_putsNumber_11 : decode cX10_putsNumber 11 = .ok (.bipush 10, 2) := by decide +kernel
theorem dX10_putsNumber_13 : decode cX10_putsNumber 13 = .ok (.imul, 1) := by decide +kernel
theorem dX10_putsNumber_14 : decode cX10_putsNumber 14 = .ok (.istore_n 2, 1) := by decide +kernel
theorem dX10_putsNumber_15 : decode cX10_putsNumber 15 = .ok (.goto (-13), 3) := by decide +kernel
theorem dX10_putsNumber_18 : decode cX10_putsNumber 18 = .ok (.iload_n 2, 1) := by decide +kernel
theorem dX10_putsNumber_19 : decode cX10_putsNumber 19 = .ok (.ifCond .le 24, 3) := by decide +kernel
theorem dX10_putsNumber_22 : decode cX10_putsNumber 22 = .ok (.aload_n 0, 1) := by decide +kernel
theorem dX10_putsNumber_23 : decode cX10_putsNumber 23 = .ok (.bipush 48, 2) := by decide +kernel
theorem dX10_putsNumber_25 : decode cX10_putsNumber 25 = .ok (.iload_n 1, 1) := by decide +kernel
theorem dX10_putsNumber_26 : decode cX10_putsNumber 26 = .ok (.iload_n 2, 1) := by decide +kernel
theorem dX10_putsNumber_27 : decode cX10_putsNumber 27 = .ok (.idiv, 1) := by decide +kernel
theorem dX10_putsNumber_28 : decode cX10_putsNumber 28 = .ok (.bipush 10, 2) := by decide +kernel
theorem dX10_putsNumber_30 : decode cX10_putsNumber 30 = .ok (.irem, 1) := by decide +kernel
theorem dX10_putsNumber_31 : decode cX10_putsNumber 31 = .ok (.iadd, 1) := by decide +kernel
theorem dX10_putsNumber_32 : decode cX10_putsNumber 32 = .ok (.invokevirtual 272, 3) := by decide +kernel
theorem dX10_putsNumber_35 : decode cX10_putsNumber 35 = .ok (.iload_n 2, 1) := by decide +kernel
theorem dX10_putsNumber_36 : decode cX10_putsNumber 36 = .ok (.bipush 10, 2) := by decide +kernel
theorem dX10_putsNumber_38 : decode cX10_putsNumber 38 = .ok (.idiv, 1) := by decide +kernel
theorem dX10_putsNumber_39 : decode cX10_putsNumber 39 = .ok (.istore_n 2, 1) := by decide +kernel
theorem dX10_putsNumber_40 : decode cX10_putsNumber 40 = .ok (.goto (-22), 3) := by decide +kernel
theorem dX10_putsNumber_43 : decode cX10_putsNumber 43 = .ok (.return_, 1) := by decide +kernel
theorem dX10_putsWith_0 : decode cX10_putsWith 0 = .ok (.aload_n 0, 1) := by decide +kernel
theorem dX10_putsWith_1 : decode cX10_putsWith 1 = .ok (.iload_n 1, 1) := by decide +kernel
theorem dX10_putsWith_2 : decode cX10_putsWith 2 = .ok (.invokevirtual 272, 3) := by decide +kernel
theorem dX10_putsWith_5 : decode cX10_putsWith 5 = .ok (.aload_n 0, 1) := by decide +kernel
theorem dX10_putsWith_6 : decode cX10_putsWith 6 = .ok (.iload_n 2, 1) := by decide +kernel
theorem dX10_putsWith_7 : decode cX10_putsWith 7 = .ok (.invokevirtual 276, 3) := by decide +kernel
theorem dX10_putsWith_10 : decode cX10_putsWith 10 = .ok (.return_, 1) := by decide +kernel
theorem dX10_layList_0 : decode cX10_layList 0 = .ok (.aload_n 0, 1) := by decide +kernel
theorem dX10_layList_1 : decode cX10_layList 1 = .ok (.iconst 0, 1) := by decide +kernel
theorem dX10_layList_2 : decode cX10_layList 2 = .ok (.putfield 269, 3) := by decide +kernel
theorem dX10_layList_5 : decode cX10_layList 5 = .ok (.iconst 0, 1) := by decide +kernel
theorem dX10_layList_6 : decode cX10_layList 6 = .ok (.istore_n 1, 1) := by decide +kernel
theorem dX10_layList_7 : decode cX10_layList 7 = .ok (.iload_n 1, 1) := by decide +kernel
theorem dX10_layList_8 : decode cX10_layList 8 = .ok (.aload_n 0, 1) := by decide +kernel
theorem dX10_layList_9 : decode cX10_layList 9 = .ok (.getfield 7, 3) := by decide +kernel
theorem dX10_layList_12 : decode cX10_layList 12 = .ok (.iconst 4, 1) := by decide +kernel
theorem dX10_layList_13 : decode cX10_layList 13 = .ok (.iaload, 1) := by decide +kernel
theorem dX10_layList_14 : decode cX10_layList 14 = .ok (.if_icmp .ge 139, 3) := by decide +kernel
theorem dX10_layList_17 : decode cX10_layList 17 = .ok (.aload_n 0, 1) := by decide +kernel
theorem dX10_layList_18 : decode cX10_layList 18 = .ok (.getfield 7, 3) := by decide +kernel
theorem dX10_layList_21 : decode cX10_layList 21 = .ok (.iload_n 1, 1) := by decide +kernel
theorem dX10_layList_22 : decode cX10_layList 22 = .ok (.iconst 0, 1) := by decide +kernel
theorem dX10_layList_23 : decode cX10_layList 23 = .ok (.invokestatic 107, 3) := by decide +kernel
theorem dX10_layList_26 : decode cX10_layList 26 = .ok (.istore_n 2, 1) := by decide +kernel
theorem dX10_layList_27 : decode cX10_layList 27 = .ok (.aload_n 0, 1) := by decide +kernel
theorem dX10_layList_28 : decode cX10_layList 28 = .ok (.iload_n 1, 1) := by decide +kernel
theorem dX10_layList_29 : decode cX10_layList 29 = .ok (.invokevirtual 276, 3) := by decide +kernel
theorem dX10_layList_32 : decode cX10_layList 32 = .ok (.aload_n 0, 1) := by decide +kernel
theorem dX10_layList_33 : decode cX10_layList 33 = .ok (.bipush 58, 2) := by decide +kernel
theorem dX10_layList_35 : decode cX10_layList 35 = .ok (.aload_n 0, 1) := by decide +kernel
theorem dX10_layList_36 : decode cX10_layList 36 = .ok (.getfield 7, 3) := by decide +kernel
theorem dX10_layList_39 : decode cX10_layList 39 = .ok (.iload_n 1, 1) := by decide +kernel
theorem dX10_layList_40 : decode cX10_layList 40 = .ok (.iconst 1, 1) := by decide +kernel
theorem dX10_layList_41 : decode cX10_layList 41 = .ok (.invokestatic 54, 3) := by decide +kernel
theorem dX10_layList_44 : decode cX10_layList 44 = .ok (.iaload, 1) := by decide +kernel
theorem dX10_layList_45 : decode cX10_layList 45 = .ok (.invokevirtual 279, 3) := by decide +kernel
theorem dX10_layList_48 : decode cX10_layList 48 = .ok (.aload_n 0, 1) := by decide +kernel
theorem dX10_layList_49 : decode cX10_layList 49 = .ok (.getfield 7, 3) := by decide +kernel
theorem dX10_layList_52 : decode cX10_layList 52 = .ok (.iload_n 1, 1) := by decide +kernel
theorem dX10_layList_53 : decode cX10_layList 53 = .ok (.invokestatic 73, 3) := by decide +kernel
theorem dX10_layList_56 : decode cX10_layList 56 = .ok (.ifCond .ne 9, 3) := by decide +kernel
theorem dX10_layList_59 : decode cX10_layList 59 = .ok (.aload_n 0, 1) := by decide +kernel
theorem dX10_layList_60 : decode cX10_layList 60 = .ok (.bipush 120, 2) := by decide +kernel
theorem dX10_layList_62 : decode cX10_layList 62 = .ok (.invokevirtual 272, 3) := by decide +kernel
theorem dX10_layList_65 : decode cX10_layList 65 = .ok (.iconst 0, 1) := by decide +kernel
theorem dX10_layList_66 : decode cX10_layList 66 = .ok (.istore_n 3, 1) := by decide +kernel
theorem dX10_layList_67 : decode cX10_layList 67 = .ok (.iload_n 3, 1) := by decide +kernel
theorem dX10_layList_68 : decode cX10_layList 68 = .ok (.aload_n 0, 1) := by decide +kernel
theorem dX10_layList_69 : decode cX10_layList 69 = .ok (.getfield 7, 3) := by decide +kernel
theorem dX10_layList_72 : decode cX10_layList 72 = .ok (.iload_n 1, 1) := by decide +kernel
theorem dX10_layList_73 : decode cX10_layList 73 = .ok (.iconst 4, 1) := by decide +kernel
theorem dX10_layList_74 : decode cX10_layList 74 = .ok (.invokestatic 54, 3) := by decide +kernel
theorem dX10_layList_77 : decode cX10_layList 77 = .ok (.iaload, 1) := by decide +kernel
theorem dX10_layList_78 : decode cX10_layList 78 = .ok (.if_icmp .ge 43, 3) := by decide +kernel
theorem dX10_layList_81 : decode cX10_layList 81 = .ok (.aload_n 0, 1) := by decide +kernel
theorem dX10_layList_82 : decode cX10_layList 82 = .ok (.bipush 47, 2) := by decide +kernel
theorem dX10_layList_84 : decode cX10_layList 84 = .ok (.aload_n 0, 1) := by decide +kernel
theorem dX10_layList_85 : decode cX10_layList 85 = .ok (.getfield 7, 3) := by decide +kernel
theorem dX10_layList_88 : decode cX10_layList 88 = .ok (.iload_n 1, 1) := by decide +kernel
theorem dX10_layList_89 : decode cX10_layList 89 = .ok (.iload_n 3, 1) := by decide +kernel
theorem dX10_layList_90 : decode cX10_layList 90 = .ok (.iconst 1, 1) := by decide +kernel
theorem dX10_layList_91 : decode cX10_layList 91 = .ok (.invokestatic 62, 3) := by decide +kernel
theorem dX10_layList_94 : decode cX10_layList 94 = .ok (.iaload, 1) := by decide +kernel
theorem dX10_layList_95 : decode cX10_layList 95 = .ok (.invokevirtual 279, 3) := by decide +kernel
theorem dX10_layList_98 : decode cX10_layList 98 = .ok (.aload_n 0, 1) := by decide +kernel
theorem dX10_layList_99 : decode cX10_layList 99 = .ok (.bipush 62, 2) := by decide +kernel
theorem dX10_layList_101 : decode cX10_layList 101 = .ok (.aload_n 0, 1) := by decide +kernel
theorem dX10_layList_102 : decode cX10_layList 102 = .ok (.getfield 7, 3) := by decide +kernel
theorem dX10_layList_105 : decode cX10_layList 105 = .ok (.iload_n 1, 1) := by decide +kernel
theorem dX10_layList_106 : decode cX10_layList 106 = .ok (.iload_n 3, 1) := by decide +kernel
theorem dX10_layList_107 : decode cX10_layList 107 = .ok (.iconst 0, 1) := by decide +kernel
theorem dX10_layList_108 : decode cX10_layList 108 = .ok (.invokestatic 62, 3) := by decide +kernel
theorem dX10_layList_111 : decode cX10_layList 111 = .ok (.iaload, 1) := by decide +kernel
theorem dX10_layList_112 : decode cX10_layList 112 = .ok (.invokevirtual 279, 3) := by decide +kernel
theorem dX10_layList_115 : decode cX10_layList 115 = .ok (.iinc 3 1, 3) := by decide +kernel
theorem dX10_layList_118 : decode cX10_layList 118 = .ok (.goto (-51), 3) := by decide +kernel
theorem dX10_layList_121 : decode cX10_layList 121 = .ok (.iload_n 2, 1) := by decide +kernel
theorem dX10_layList_122 : decode cX10_layList 122 = .ok (.ifCond .lt 19, 3) := by decide +kernel
theorem dX10_layList_125 : decode cX10_layList 125 = .ok (.aload_n 0, 1) := by decide +kernel
theorem dX10_layList_126 : decode cX10_layList 126 = .ok (.bipush 64, 2) := by decide +kernel
theorem dX10_layList_128 : decode cX10_layList 128 = .ok (.aload_n 0, 1) := by decide +kernel
theorem dX10_layList_129 : decode cX10_layList 129 = .ok (.getfield 7, 3) := by decide +kernel
theorem dX10_layList_132 : decode cX10_layList 132 = .ok (.iload_n 2, 1) := by decide +kernel
theorem dX10_layList_133 : decode cX10_layList 133 = .ok (.iconst 0, 1) := by decide +kernel
theorem dX10_layList_134 : decode cX10_layList 134 = .ok (.invokestatic 66, 3) := by decide +kernel
theorem dX10_layList_137 : decode cX10_layList 137 = .ok (.iaload, 1) := by decide +kernel
theorem dX10_layList_138 : decode cX10_layList 138 = .ok (.invokevirtual 279, 3) := by decide +kernel
theorem dX10_layList_141 : decode cX10_layList 141 = .ok (.aload_n 0, 1) := by decide +kernel
theorem dX10_layList_142 : decode cX10_layList 142 = .ok (.bipush 10, 2) := by decide +kernel
theorem dX10_layList_144 : decode cX10_layList 144 = .ok (.invokevirtual 272, 3) := by decide +kernel
theorem dX10_layList_147 : decode cX10_layList 147 = .ok (.iinc 1 1, 3) := by decide +kernel
theorem dX10_layList_150 : decode cX10_layList 150 = .ok (.goto (-143), 3) := by decide +kernel
theorem dX10_layList_153 : decode cX10_layList 153 = .ok (.return_, 1) := by decide +kernel
theorem dX10_listLength_0 : decode cX10_listLength 0 = .ok (.aload_n 0, 1) := by decide +kernel
theorem dX10_listLength_1 : decode cX10_listLength 1 = .ok (.invokevirtual 283, 3) := by decide +kernel
theorem dX10_listLength_4 : decode cX10_listLength 4 = .ok (.aload_n 0, 1) := by decide +kernel
theorem dX10_listLength_5 : decode cX10_listLength 5 = .ok (.getfield 269, 3) := by decide +kernel
theorem dX10_listLength_8 : decode cX10_listLength 8 = .ok (.ireturn, 1) := by decide +kernel
theorem dX10_listByte_0 : decode cX10_listByte 0 = .ok (.iload_n 1, 1) := by decide +kernel
theorem dX10_listByte_1 : decode cX10_listByte 1 = .ok (.ifCond .ge 5, 3) := by decide +kernel
theorem dX10_listByte_4 : decode cX10_listByte 4 = .ok (.iconst (-1), 1) := by decide +kernel
theorem dX10_listByte_5 : decode cX10_listByte 5 = .ok (.ireturn, 1) := by decide +kernel
theorem dX10_listByte_6 : decode cX10_listByte 6 = .ok (.aload_n 0, 1) := by decide +kernel
theorem dX10_listByte_7 : decode cX10_listByte 7 = .ok (.invokevirtual 283, 3) := by decide +kernel
theorem dX10_listByte_10 : decode cX10_listByte 10 = .ok (.aload_n 0, 1) := by decide +kernel
theorem dX10_listByte_11 : decode cX10_listByte 11 = .ok (.iload_n 1, 1) := by decide +kernel
theorem dX10_listByte_12 : decode cX10_listByte 12 = .ok (.invokevirtual 286, 3) := by decide +kernel
theorem dX10_listByte_15 : decode cX10_listByte 15 = .ok (.ireturn, 1) := by decide +kernel
theorem dX10_putsWord_0 : decode cX10_putsWord 0 = .ok (.iconst 1, 1) := by decide +kernel
theorem dX10_putsWord_1 : decode cX10_putsWord 1 = .ok (.istore_n 2, 1) := by decide +kernel
theorem dX10_putsWord_2 : decode cX10_putsWord 2 = .ok (.iload_n 2, 1) := by decide +kernel
theorem dX10_putsWord_3 : decode cX10_putsWord 3 = .ok (.iload_n 1, 1) := by decide +kernel
theorem dX10_putsWord_4 : decode cX10_putsWord 4 = .ok (.bipush 27, 2) := by decide +kernel
theorem dX10_putsWord_6 : decode cX10_putsWord 6 = .ok (.idiv, 1) := by decide +kernel
theorem dX10_putsWord_7 : decode cX10_putsWord 7 = .ok (.if_icmp .gt 11, 3) := by decide +kernel
theorem dX10_putsWord_10 : decode cX10_putsWord 10 = .ok (.iload_n 2, 1) := by decide +kernel
theorem dX10_putsWord_11 : decode cX10_putsWord 11 = .ok (.bipush 27, 2) := by decide +kernel
theorem dX10_putsWord_13 : decode cX10_putsWord 13 = .ok (.imul, 1) := by decide +kernel
theorem dX10_putsWord_14 : decode cX10_putsWord 14 = .ok (.istore_n 2, 1) := by decide +kernel
theorem dX10_putsWord_15 : decode cX10_putsWord 15 = .ok (.goto (-13), 3) := by decide +kernel
theorem dX10_putsWord_18 : decode cX10_putsWord 18 = .ok (.iload_n 2, 1) := by decide +kernel
theorem dX10_putsWord_19 : decode cX10_putsWord 19 = .ok (.ifCond .le 24, 3) := by decide +kernel
theorem dX10_putsWord_22 : decode cX10_putsWord 22 = .ok (.aload_n 0, 1) := by decide +kernel
theorem dX10_putsWord_23 : decode cX10_putsWord 23 = .ok (.bipush 96, 2) := by decide +kernel
theorem dX10_putsWord_25 : decode cX10_putsWord 25 = .ok (.iload_n 1, 1) := by decide +kernel
theorem dX10_putsWord_26 : decode cX10_putsWord 26 = .ok (.iload_n 2, 1) := by decide +kernel
theorem dX10_putsWord_27 : decode cX10_putsWord 27 = .ok (.idiv, 1) := by decide +kernel
theorem dX10_putsWord_28 : decode cX10_putsWord 28 = .ok (.bipush 27, 2) := by decide +kernel
theorem dX10_putsWord_30 : decode cX10_putsWord 30 = .ok (.irem, 1) := by decide +kernel
theorem dX10_putsWord_31 : decode cX10_putsWord 31 = .ok (.iadd, 1) := by decide +kernel
theorem dX10_putsWord_32 : decode cX10_putsWord 32 = .ok (.invokevirtual 272, 3) := by decide +kernel
theorem dX10_putsWord_35 : decode cX10_putsWord 35 = .ok (.iload_n 2, 1) := by decide +kernel
theorem dX10_putsWord_36 : decode cX10_putsWord 36 = .ok (.bipush 27, 2) := by decide +kernel
theorem dX10_putsWord_38 : decode cX10_putsWord 38 = .ok (.idiv, 1) := by decide +kernel
theorem dX10_putsWord_39 : decode cX10_putsWord 39 = .ok (.istore_n 2, 1) := by decide +kernel
theorem dX10_putsWord_40 : decode cX10_putsWord 40 = .ok (.goto (-22), 3) := by decide +kernel
theorem dX10_putsWord_43 : decode cX10_putsWord 43 = .ok (.return_, 1) := by decide +kernel
theorem dX10_putsRule_0 : decode cX10_putsRule 0 = .ok (.aload_n 0, 1) := by decide +kernel
theorem dX10_putsRule_1 : decode cX10_putsRule 1 = .ok (.iload_n 1, 1) := by decide +kernel
theorem dX10_putsRule_2 : decode cX10_putsRule 2 = .ok (.invokevirtual 289, 3) := by decide +kernel
theorem dX10_putsRule_5 : decode cX10_putsRule 5 = .ok (.aload_n 0, 1) := by decide +kernel
theorem dX10_putsRule_6 : decode cX10_putsRule 6 = .ok (.bipush 32, 2) := by decide +kernel
theorem dX10_putsRule_8 : decode cX10_putsRule 8 = .ok (.iload_n 2, 1) := by decide +kernel
theorem dX10_putsRule_9 : decode cX10_putsRule 9 = .ok (.invokevirtual 279, 3) := by decide +kernel
theorem dX10_putsRule_12 : decode cX10_putsRule 12 = .ok (.return_, 1) := by decide +kernel
theorem dX10_layLetters_0 : decode cX10_layLetters 0 = .ok (.iconst 0, 1) := by decide +kernel
theorem dX10_layLetters_1 : decode cX10_layLetters 1 = .ok (.istore_n 2, 1) := by decide +kernel
theorem dX10_layLetters_2 : decode cX10_layLetters 2 = .ok (.iload_n 2, 1) := by decide +kernel
theorem dX10_layLetters_3 : decode cX10_layLetters 3 = .ok (.aload_n 0, 1) := by decide +kernel
theorem dX10_layLetters_4 : decode cX10_layLetters 4 = .ok (.getfield 7, 3) := by decide +kernel
theorem dX10_layLetters_7 : decode cX10_layLetters 7 = .ok (.iload_n 1, 1) := by decide +kernel
theorem dX10_layLetters_8 : decode cX10_layLetters 8 = .ok (.iconst 4, 1) := by decide +kernel
theorem dX10_layLetters_9 : decode cX10_layLetters 9 = .ok (.invokestatic 54, 3) := by decide +kernel
theorem dX10_layLetters_12 : decode cX10_layLetters 12 = .ok (.iaload, 1) := by decide +kernel
theorem dX10_layLetters_13 : decode cX10_layLetters 13 = .ok (.if_icmp .ge 56, 3) := by decide +kernel
theorem dX10_layLetters_16 : decode cX10_layLetters 16 = .ok (.aload_n 0, 1) := by decide +kernel
theorem dX10_layLetters_17 : decode cX10_layLetters 17 = .ok (.ldc 201, 2) := by decide +kernel
theorem dX10_layLetters_19 : decode cX10_layLetters 19 = .ok (.iload_n 1, 1) := by decide +kernel
theorem dX10_layLetters_20 : decode cX10_layLetters 20 = .ok (.invokevirtual 292, 3) := by decide +kernel
theorem dX10_layLetters_23 : decode cX10_layLetters 23 = .ok (.aload_n 0, 1) := by decide +kernel
theorem dX10_layLetters_24 : decode cX10_layLetters 24 = .ok (.bipush 32, 2) := by decide +kernel
theorem dX10_layLetters_26 : decode cX10_layLetters 26 = .ok (.aload_n 0, 1) := by decide +kernel
theorem dX10_layLetters_27 : decode cX10_layLetters 27 = .ok (.getfield 7, 3) := by decide +kernel
theorem dX10_layLetters_30 : decode cX10_layLetters 30 = .ok (.iload_n 1, 1) := by decide +kernel
theorem dX10_layLetters_31 : decode cX10_layLetters 31 = .ok (.iload_n 2, 1) := by decide +kernel
theorem dX10_layLetters_32 : decode cX10_layLetters 32 = .ok (.iconst 0, 1) := by decide +kernel
theorem dX10_layLetters_33 : decode cX10_layLetters 33 = .ok (.invokestatic 62, 3) := by decide +kernel
theorem dX10_layLetters_36 : decode cX10_layLetters 36 = .ok (.iaload, 1) := by decide +kernel
theorem dX10_layLetters_37 : decode cX10_layLetters 37 = .ok (.invokevirtual 279, 3) := by decide +kernel
theorem dX10_layLetters_40 : decode cX10_layLetters 40 = .ok (.aload_n 0, 1) := by decide +kernel
theorem dX10_layLetters_41 : decode cX10_layLetters 41 = .ok (.bipush 32, 2) := by decide +kernel
theorem dX10_layLetters_43 : decode cX10_layLetters 43 = .ok (.aload_n 0, 1) := by decide +kernel
theorem dX10_layLetters_44 : decode cX10_layLetters 44 = .ok (.getfield 7, 3) := by decide +kernel
theorem dX10_layLetters_47 : decode cX10_layLetters 47 = .ok (.iload_n 1, 1) := by decide +kernel
theorem dX10_layLetters_48 : decode cX10_layLetters 48 = .ok (.iload_n 2, 1) := by decide +kernel
theorem dX10_layLetters_49 : decode cX10_layLetters 49 = .ok (.iconst 1, 1) := by decide +kernel
theorem dX10_layLetters_50 : decode cX10_layLetters 50 = .ok (.invokestatic 62, 3) := by decide +kernel
theorem dX10_layLetters_53 : decode cX10_layLetters 53 = .ok (.iaload, 1) := by decide +kernel
theorem dX10_layLetters_54 : decode cX10_layLetters 54 = .ok (.invokevirtual 279, 3) := by decide +kernel
theorem dX10_layLetters_57 : decode cX10_layLetters 57 = .ok (.aload_n 0, 1) := by decide +kernel
theorem dX10_layLetters_58 : decode cX10_layLetters 58 = .ok (.bipush 59, 2) := by decide +kernel
theorem dX10_layLetters_60 : decode cX10_layLetters 60 = .ok (.invokevirtual 272, 3) := by decide +kernel
theorem dX10_layLetters_63 : decode cX10_layLetters 63 = .ok (.iinc 2 1, 3) := by decide +kernel
theorem dX10_layLetters_66 : decode cX10_layLetters 66 = .ok (.goto (-64), 3) := by decide +kernel
theorem dX10_layLetters_69 : decode cX10_layLetters 69 = .ok (.return_, 1) := by decide +kernel
theorem dX10_laySetup_0 : decode cX10_laySetup 0 = .ok (.aload_n 0, 1) := by decide +kernel
theorem dX10_laySetup_1 : decode cX10_laySetup 1 = .ok (.iconst 0, 1) := by decide +kernel
theorem dX10_laySetup_2 : decode cX10_laySetup 2 = .ok (.putfield 269, 3) := by decide +kernel
theorem dX10_laySetup_5 : decode cX10_laySetup 5 = .ok (.aload_n 0, 1) := by decide +kernel
theorem dX10_laySetup_6 : decode cX10_laySetup 6 = .ok (.ldc 192, 2) := by decide +kernel
theorem dX10_laySetup_8 : decode cX10_laySetup 8 = .ok (.aload_n 0, 1) := by decide +kernel
theorem dX10_laySetup_9 : decode cX10_laySetup 9 = .ok (.getfield 7, 3) := by decide +kernel
theorem dX10_laySetup_12 : decode cX10_laySetup 12 = .ok (.iconst 0, 1) := by decide +kernel
theorem dX10_laySetup_13 : decode cX10_laySetup 13 = .ok (.iaload, 1) := by decide +kernel
theorem dX10_laySetup_14 : decode cX10_laySetup 14 = .ok (.invokevirtual 292, 3) := by decide +kernel
theorem dX10_laySetup_17 : decode cX10_laySetup 17 = .ok (.aload_n 0, 1) := by decide +kernel
theorem dX10_laySetup_18 : decode cX10_laySetup 18 = .ok (.bipush 32, 2) := by decide +kernel
theorem dX10_laySetup_20 : decode cX10_laySetup 20 = .ok (.invokevirtual 272, 3) := by decide +kernel
theorem dX10_laySetup_23 : decode cX10_laySetup 23 = .ok (.aload_n 0, 1) := by decide +kernel
theorem dX10_laySetup_24 : decode cX10_laySetup 24 = .ok (.ldc 196, 2) := by decide +kernel
theorem dX10_laySetup_26 : decode cX10_laySetup 26 = .ok (.aload_n 0, 1) := by decide +kernel
theorem dX10_laySetup_27 : decode cX10_laySetup 27 = .ok (.getfield 7, 3) := by decide +kernel
theorem dX10_laySetup_30 : decode cX10_laySetup 30 = .ok (.iconst 1, 1) := by decide +kernel
theorem dX10_laySetup_31 : decode cX10_laySetup 31 = .ok (.iaload, 1) := by decide +kernel
theorem dX10_laySetup_32 : decode cX10_laySetup 32 = .ok (.invokevirtual 292, 3) := by decide +kernel
theorem dX10_laySetup_35 : decode cX10_laySetup 35 = .ok (.aload_n 0, 1) := by decide +kernel
theorem dX10_laySetup_36 : decode cX10_laySetup 36 = .ok (.bipush 32, 2) := by decide +kernel
theorem dX10_laySetup_38 : decode cX10_laySetup 38 = .ok (.invokevirtual 272, 3) := by decide +kernel
theorem dX10_laySetup_41 : decode cX10_laySetup 41 = .ok (.aload_n 0, 1) := by decide +kernel
theorem dX10_laySetup_42 : decode cX10_laySetup 42 = .ok (.ldc 197, 2) := by decide +kernel
theorem dX10_laySetup_44 : decode cX10_laySetup 44 = .ok (.aload_n 0, 1) := by decide +kernel
theorem dX10_laySetup_45 : decode cX10_laySetup 45 = .ok (.getfield 7, 3) := by decide +kernel
theorem dX10_laySetup_48 : decode cX10_laySetup 48 = .ok (.iconst 2, 1) := by decide +kernel
theorem dX10_laySetup_49 : decode cX10_laySetup 49 = .ok (.iaload, 1) := by decide +kernel
theorem dX10_laySetup_50 : decode cX10_laySetup 50 = .ok (.invokevirtual 292, 3) := by decide +kernel
theorem dX10_laySetup_53 : decode cX10_laySetup 53 = .ok (.aload_n 0, 1) := by decide +kernel
theorem dX10_laySetup_54 : decode cX10_laySetup 54 = .ok (.bipush 59, 2) := by decide +kernel
theorem dX10_laySetup_56 : decode cX10_laySetup 56 = .ok (.invokevirtual 272, 3) := by decide +kernel
theorem dX10_laySetup_59 : decode cX10_laySetup 59 = .ok (.iconst 0, 1) := by decide +kernel
theorem dX10_laySetup_60 : decode cX10_laySetup 60 = .ok (.istore_n 1, 1) := by decide +kernel
theorem dX10_laySetup_61 : decode cX10_laySetup 61 = .ok (.iload_n 1, 1) := by decide +kernel
theorem dX10_laySetup_62 : decode cX10_laySetup 62 = .ok (.aload_n 0, 1) := by decide +kernel
theorem dX10_laySetup_63 : decode cX10_laySetup 63 = .ok (.getfield 7, 3) := by decide +kernel
theorem dX10_laySetup_66 : decode cX10_laySetup 66 = .ok (.iconst 4, 1) := by decide +kernel
theorem dX10_laySetup_67 : decode cX10_laySetup 67 = .ok (.iaload, 1) := by decide +kernel
theorem dX10_laySetup_68 : decode cX10_laySetup 68 = .ok (.if_icmp .ge 70, 3) := by decide +kernel
theorem dX10_laySetup_71 : decode cX10_laySetup 71 = .ok (.aload_n 0, 1) := by decide +kernel
theorem dX10_laySetup_72 : decode cX10_laySetup 72 = .ok (.ldc 184, 2) := by decide +kernel
theorem dX10_laySetup_74 : decode cX10_laySetup 74 = .ok (.aload_n 0, 1) := by decide +kernel
theorem dX10_laySetup_75 : decode cX10_laySetup 75 = .ok (.getfield 7, 3) := by decide +kernel
theorem dX10_laySetup_78 : decode cX10_laySetup 78 = .ok (.iload_n 1, 1) := by decide +kernel
theorem dX10_laySetup_79 : decode cX10_laySetup 79 = .ok (.iconst 0, 1) := by decide +kernel
theorem dX10_laySetup_80 : decode cX10_laySetup 80 = .ok (.invokestatic 54, 3) := by decide +kernel
theorem dX10_laySetup_83 : decode cX10_laySetup 83 = .ok (.iaload, 1) := by decide +kernel
theorem dX10_laySetup_84 : decode cX10_laySetup 84 = .ok (.invokevirtual 292, 3) := by decide +kernel
theorem dX10_laySetup_87 : decode cX10_laySetup 87 = .ok (.aload_n 0, 1) := by decide +kernel
theorem dX10_laySetup_88 : decode cX10_laySetup 88 = .ok (.bipush 32, 2) := by decide +kernel
theorem dX10_laySetup_90 : decode cX10_laySetup 90 = .ok (.aload_n 0, 1) := by decide +kernel
theorem dX10_laySetup_91 : decode cX10_laySetup 91 = .ok (.getfield 7, 3) := by decide +kernel
theorem dX10_laySetup_94 : decode cX10_laySetup 94 = .ok (.iload_n 1, 1) := by decide +kernel
theorem dX10_laySetup_95 : decode cX10_laySetup 95 = .ok (.iconst 1, 1) := by decide +kernel
theorem dX10_laySetup_96 : decode cX10_laySetup 96 = .ok (.invokestatic 54, 3) := by decide +kernel
theorem dX10_laySetup_99 : decode cX10_laySetup 99 = .ok (.iaload, 1) := by decide +kernel
theorem dX10_laySetup_100 : decode cX10_laySetup 100 = .ok (.invokevirtual 279, 3) := by decide +kernel
theorem dX10_laySetup_103 : decode cX10_laySetup 103 = .ok (.aload_n 0, 1) := by decide +kernel
theorem dX10_laySetup_104 : decode cX10_laySetup 104 = .ok (.getfield 7, 3) := by decide +kernel
theorem dX10_laySetup_107 : decode cX10_laySetup 107 = .ok (.iload_n 1, 1) := by decide +kernel
theorem dX10_laySetup_108 : decode cX10_laySetup 108 = .ok (.invokestatic 73, 3) := by decide +kernel
theorem dX10_laySetup_111 : decode cX10_laySetup 111 = .ok (.ifCond .ne 15, 3) := by decide +kernel
theorem dX10_laySetup_114 : decode cX10_laySetup 114 = .ok (.aload_n 0, 1) := by decide +kernel
theorem dX10_laySetup_115 : decode cX10_laySetup 115 = .ok (.bipush 32, 2) := by decide +kernel
theorem dX10_laySetup_117 : decode cX10_laySetup 117 = .ok (.invokevirtual 272, 3) := by decide +kernel
theorem dX10_laySetup_120 : decode cX10_laySetup 120 = .ok (.aload_n 0, 1) := by decide +kernel
theorem dX10_laySetup_121 : decode cX10_laySetup 121 = .ok (.ldc 188, 2) := by decide +kernel
theorem dX10_laySetup_123 : decode cX10_laySetup 123 = .ok (.invokevirtual 289, 3) := by decide +kernel
theorem dX10_laySetup_126 : decode cX10_laySetup 126 = .ok (.aload_n 0, 1) := by decide +kernel
theorem dX10_laySetup_127 : decode cX10_laySetup 127 = .ok (.bipush 59, 2) := by decide +kernel
theorem dX10_laySetup_129 : decode cX10_laySetup 129 = .ok (.invokevirtual 272, 3) := by decide +kernel
theorem dX10_laySetup_132 : decode cX10_laySetup 132 = .ok (.iinc 1 1, 3) := by decide +kernel
theorem dX10_laySetup_135 : decode cX10_laySetup 135 = .ok (.goto (-74), 3) := by decide +kernel
theorem dX10_laySetup_138 : decode cX10_laySetup 138 = .ok (.iconst 0, 1) := by decide +kernel
theorem dX10_laySetup_139 : decode cX10_laySetup 139 = .ok (.istore_n 1, 1) := by decide +kernel
theorem dX10_laySetup_140 : decode cX10_laySetup 140 = .ok (.iload_n 1, 1) := by decide +kernel
theorem dX10_laySetup_141 : decode cX10_laySetup 141 = .ok (.aload_n 0, 1) := by decide +kernel
theorem dX10_laySetup_142 : decode cX10_laySetup 142 = .ok (.getfield 7, 3) := by decide +kernel
theorem dX10_laySetup_145 : decode cX10_laySetup 145 = .ok (.iconst 4, 1) := by decide +kernel
theorem dX10_laySetup_146 : decode cX10_laySetup 146 = .ok (.iaload, 1) := by decide +kernel
theorem dX10_laySetup_147 : decode cX10_laySetup 147 = .ok (.if_icmp .ge 14, 3) := by decide +kernel
theorem dX10_laySetup_150 : decode cX10_laySetup 150 = .ok (.aload_n 0, 1) := by decide +kernel
theorem dX10_laySetup_151 : decode cX10_laySetup 151 = .ok (.iload_n 1, 1) := by decide +kernel
theorem dX10_laySetup_152 : decode cX10_laySetup 152 = .ok (.invokevirtual 295, 3) := by decide +kernel
theorem dX10_laySetup_155 : decode cX10_laySetup 155 = .ok (.iinc 1 1, 3) := by decide +kernel
theorem dX10_laySetup_158 : decode cX10_laySetup 158 = .ok (.goto (-18), 3) := by decide +kernel
theorem dX10_laySetup_161 : decode cX10_laySetup 161 = .ok (.iconst 0, 1) := by decide +kernel
theorem dX10_laySetup_162 : decode cX10_laySetup 162 = .ok (.istore_n 1, 1) := by decide +kernel
theorem dX10_laySetup_163 : decode cX10_laySetup 163 = .ok (.iload_n 1, 1) := by decide +kernel
theorem dX10_laySetup_164 : decode cX10_laySetup 164 = .ok (.aload_n 0, 1) := by decide +kernel
theorem dX10_laySetup_165 : decode cX10_laySetup 165 = .ok (.getfield 7, 3) := by decide +kernel
theorem dX10_laySetup_168 : decode cX10_laySetup 168 = .ok (.iconst 5, 1) := by decide +kernel
theorem dX10_laySetup_169 : decode cX10_laySetup 169 = .ok (.iaload, 1) := by decide +kernel
theorem dX10_laySetup_170 : decode cX10_laySetup 170 = .ok (.if_icmp .ge 48, 3) := by decide +kernel
theorem dX10_laySetup_173 : decode cX10_laySetup 173 = .ok (.aload_n 0, 1) := by decide +kernel
theorem dX10_laySetup_174 : decode cX10_laySetup 174 = .ok (.getfield 7, 3) := by decide +kernel
theorem dX10_laySetup_177 : decode cX10_laySetup 177 = .ok (.iload_n 1, 1) := by decide +kernel
theorem dX10_laySetup_178 : decode cX10_laySetup 178 = .ok (.iconst 5, 1) := by decide +kernel
theorem dX10_laySetup_179 : decode cX10_laySetup 179 = .ok (.invokestatic 66, 3) := by decide +kernel
theorem dX10_laySetup_182 : decode cX10_laySetup 182 = .ok (.iaload, 1) := by decide +kernel
theorem dX10_laySetup_183 : decode cX10_laySetup 183 = .ok (.ifCond .ne 6, 3) := by decide +kernel
theorem dX10_laySetup_186 : decode cX10_laySetup 186 = .ok (.goto 26, 3) := by decide +kernel
theorem dX10_laySetup_189 : decode cX10_laySetup 189 = .ok (.aload_n 0, 1) := by decide +kernel
theorem dX10_laySetup_190 : decode cX10_laySetup 190 = .ok (.ldc 205, 2) := by decide +kernel
theorem dX10_laySetup_192 : decode cX10_laySetup 192 = .ok (.aload_n 0, 1) := by decide +kernel
theorem dX10_laySetup_193 : decode cX10_laySetup 193 = .ok (.getfield 7, 3) := by decide +kernel
theorem dX10_laySetup_196 : decode cX10_laySetup 196 = .ok (.iload_n 1, 1) := by decide +kernel
theorem dX10_laySetup_197 : decode cX10_laySetup 197 = .ok (.iconst 1, 1) := by decide +kernel
theorem dX10_laySetup_198 : decode cX10_laySetup 198 = .ok (.invokestatic 66, 3) := by decide +kernel
theorem dX10_laySetup_201 : decode cX10_laySetup 201 = .ok (.iaload, 1) := by decide +kernel
theorem dX10_laySetup_202 : decode cX10_laySetup 202 = .ok (.invokevirtual 292, 3) := by decide +kernel
theorem dX10_laySetup_205 : decode cX10_laySetup 205 = .ok (.aload_n 0, 1) := by decide +kernel
theorem dX10_laySetup_206 : decode cX10_laySetup 206 = .ok (.bipush 59, 2) := by decide +kernel
theorem dX10_laySetup_208 : decode cX10_laySetup 208 = .ok (.invokevirtual 272, 3) := by decide +kernel
theorem dX10_laySetup_211 : decode cX10_laySetup 211 = .ok (.return_, 1) := by decide +kernel
theorem dX10_laySetup_212 : decode cX10_laySetup 212 = .ok (.iinc 1 1, 3) := by decide +kernel
theorem dX10_laySetup_215 : decode cX10_laySetup 215 = .ok (.goto (-52), 3) := by decide +kernel
theorem dX10_laySetup_218 : decode cX10_laySetup 218 = .ok (.return_, 1) := by decide +kernel
theorem dX10_setupLength_0 : decode cX10_setupLength 0 = .ok (.aload_n 0, 1) := by decide +kernel
theorem dX10_setupLength_1 : decode cX10_setupLength 1 = .ok (.invokevirtual 298, 3) := by decide +kernel
theorem dX10_setupLength_4 : decode cX10_setupLength 4 = .ok (.aload_n 0, 1) := by decide +kernel
theorem dX10_setupLength_5 : decode cX10_setupLength 5 = .ok (.getfield 269, 3) := by decide +kernel
theorem dX10_setupLength_8 : decode cX10_setupLength 8 = .ok (.ireturn, 1) := by decide +kernel
theorem dX10_setupByte_0 : decode cX10_setupByte 0 = .ok (.iload_n 1, 1) := by decide +kernel
theorem dX10_setupByte_1 : decode cX10_setupByte 1 = .ok (.ifCond .ge 5, 3) := by decide +kernel
theorem dX10_setupByte_4 : decode cX10_setupByte 4 = .ok (.iconst (-1), 1) := by decide +kernel
theorem dX10_setupByte_5 : decode cX10_setupByte 5 = .ok (.ireturn, 1) := by decide +kernel
theorem dX10_setupByte_6 : decode cX10_setupByte 6 = .ok (.aload_n 0, 1) := by decide +kernel
theorem dX10_setupByte_7 : decode cX10_setupByte 7 = .ok (.invokevirtual 298, 3) := by decide +kernel
theorem dX10_setupByte_10 : decode cX10_setupByte 10 = .ok (.aload_n 0, 1) := by decide +kernel
theorem dX10_setupByte_11 : decode cX10_setupByte 11 = .ok (.iload_n 1, 1) := by decide +kernel
theorem dX10_setupByte_12 : decode cX10_setupByte 12 = .ok (.invokevirtual 286, 3) := by decide +kernel
theorem dX10_setupByte_15 : decode cX10_setupByte 15 = .ok (.ireturn, 1) := by decide +kernel
theorem dJ9_min_7cf53_0 : decode cJ9_min_7cf53 0 = .ok (.iload_n 0, 1) := by decide +kernel
theorem dJ9_min_7cf53_1 : decode cJ9_min_7cf53 1 = .ok (.iload_n 1, 1) := by decide +kernel
theorem dJ9_min_7cf53_2 : decode cJ9_min_7cf53 2 = .ok (.if_icmp .gt 7, 3) := by decide +kernel
theorem dJ9_min_7cf53_5 : decode cJ9_min_7cf53 5 = .ok (.iload_n 0, 1) := by decide +kernel
theorem dJ9_min_7cf53_6 : decode cJ9_min_7cf53 6 = .ok (.goto 4, 3) := by decide +kernel
theorem dJ9_min_7cf53_9 : decode cJ9_min_7cf53 9 = .ok (.iload_n 1, 1) := by decide +kernel
theorem dJ9_min_7cf53_10 : decode cJ9_min_7cf53 10 = .ok (.ireturn, 1) := by decide +kernel
theorem dJ0_length_8abf5_0 : decode cJ0_length_8abf5 0 = .ok (.aload_n 0, 1) := by decide +kernel
theorem dJ0_length_8abf5_1 : decode cJ0_length_8abf5 1 = .ok (.getfield 9, 3) := by decide +kernel
theorem dJ0_length_8abf5_4 : decode cJ0_length_8abf5 4 = .ok (.arraylength, 1) := by decide +kernel
theorem dJ0_length_8abf5_5 : decode cJ0_length_8abf5 5 = .ok (.aload_n 0, 1) := by decide +kernel
theorem dJ0_length_8abf5_6 : decode cJ0_length_8abf5 6 = .ok (.invokevirtual 335, 3) := by decide +kernel
theorem dJ0_length_8abf5_9 : decode cJ0_length_8abf5 9 = .ok (.ishr, 1) := by decide +kernel
theorem dJ0_length_8abf5_10 : decode cJ0_length_8abf5 10 = .ok (.ireturn, 1) := by decide +kernel
theorem dJ0_charAt_5068e_0 : decode cJ0_charAt_5068e 0 = .ok (.aload_n 0, 1) := by decide +kernel
theorem dJ0_charAt_5068e_1 : decode cJ0_charAt_5068e 1 = .ok (.invokevirtual 492, 3) := by decide +kernel
theorem dJ0_charAt_5068e_4 : decode cJ0_charAt_5068e 4 = .ok (.ifCond .eq 12, 3) := by decide +kernel
theorem dJ0_charAt_5068e_7 : decode cJ0_charAt_5068e 7 = .ok (.aload_n 0, 1) := by decide +kernel
theorem dJ0_charAt_5068e_8 : decode cJ0_charAt_5068e 8 = .ok (.getfield 9, 3) := by decide +kernel
theorem dJ0_charAt_5068e_11 : decode cJ0_charAt_5068e 11 = .ok (.iload_n 1, 1) := by decide +kernel
theorem dJ0_charAt_5068e_12 : decode cJ0_charAt_5068e 12 = .ok (.invokestatic 495, 3) := by decide +kernel
theorem dJ0_charAt_5068e_15 : decode cJ0_charAt_5068e 15 = .ok (.ireturn, 1) := by decide +kernel
theorem dJ0_charAt_5068e_16 : decode cJ0_charAt_5068e 16 = .ok (.aload_n 0, 1) := by decide +kernel
theorem dJ0_charAt_5068e_17 : decode cJ0_charAt_5068e 17 = .ok (.getfield 9, 3) := by decide +kernel
theorem dJ0_charAt_5068e_20 : decode cJ0_charAt_5068e 20 = .ok (.iload_n 1, 1) := by decide +kernel
theorem dJ0_charAt_5068e_21 : decode cJ0_charAt_5068e 21 = .ok (.invokestatic 498, 3) := by decide +kernel
theorem dJ0_charAt_5068e_24 : decode cJ0_charAt_5068e 24 = .ok (.ireturn, 1) := by decide +kernel
theorem dJ0_coder_7d493_0 : decode cJ0_coder_7d493 0 = .ok (.getstatic 38, 3) := by decide +kernel
theorem dJ0_coder_7d493_3 : decode cJ0_coder_7d493 3 = .ok (.ifCond .eq 10, 3) := by decide +kernel
theorem dJ0_coder_7d493_6 : decode cJ0_coder_7d493 6 = .ok (.aload_n 0, 1) := by decide +kernel
theorem dJ0_coder_7d493_7 : decode cJ0_coder_7d493 7 = .ok (.getfield 15, 3) := by decide +kernel
theorem dJ0_coder_7d493_10 : decode cJ0_coder_7d493 10 = .ok (.goto 4, 3) := by decide +kernel
theorem dJ0_coder_7d493_13 : decode cJ0_coder_7d493 13 = .ok (.iconst 1, 1) := by decide +kernel
theorem dJ0_coder_7d493_14 : decode cJ0_coder_7d493 14 = .ok (.ireturn, 1) := by decide +kernel
theorem dJ0_isLatin1_aae02_0 : decode cJ0_isLatin1_aae02 0 = .ok (.getstatic 38, 3) := by decide +kernel
theorem dJ0_isLatin1_aae02_3 : decode cJ0_isLatin1_aae02 3 = .ok (.ifCond .eq 14, 3) := by decide +kernel
theorem dJ0_isLatin1_aae02_6 : decode cJ0_isLatin1_aae02 6 = .ok (.aload_n 0, 1) := by decide +kernel
theorem dJ0_isLatin1_aae02_7 : decode cJ0_isLatin1_aae02 7 = .ok (.getfield 15, 3) := by decide +kernel
theorem dJ0_isLatin1_aae02_10 : decode cJ0_isLatin1_aae02 10 = .ok (.ifCond .ne 7, 3) := by decide +kernel
theorem dJ0_isLatin1_aae02_13 : decode cJ0_isLatin1_aae02 13 = .ok (.iconst 1, 1) := by decide +kernel
theorem dJ0_isLatin1_aae02_14 : decode cJ0_isLatin1_aae02 14 = .ok (.goto 4, 3) := by decide +kernel
theorem dJ0_isLatin1_aae02_17 : decode cJ0_isLatin1_aae02 17 = .ok (.iconst 0, 1) := by decide +kernel
theorem dJ0_isLatin1_aae02_18 : decode cJ0_isLatin1_aae02 18 = .ok (.ireturn, 1) := by decide +kernel
theorem dJ0_checkIndex_df160_0 : decode cJ0_checkIndex_df160 0 = .ok (.iload_n 0, 1) := by decide +kernel
theorem dJ0_checkIndex_df160_1 : decode cJ0_checkIndex_df160 1 = .ok (.iload_n 1, 1) := by decide +kernel
theorem dJ0_checkIndex_df160_2 : decode cJ0_checkIndex_df160 2 = .ok (.getstatic 1053, 3) := by decide +kernel
theorem dJ0_checkIndex_df160_5 : decode cJ0_checkIndex_df160 5 = .ok (.invokestatic 1059, 3) := by decide +kernel
theorem dJ0_checkIndex_df160_8 : decode cJ0_checkIndex_df160 8 = .ok (.pop, 1) := by decide +kernel
theorem dJ0_checkIndex_df160_9 : decode cJ0_checkIndex_df160 9 = .ok (.return_, 1) := by decide +kernel
theorem dJ1_charAt_3b067_0 : decode cJ1_charAt_3b067 0 = .ok (.iload_n 1, 1) := by decide +kernel
theorem dJ1_charAt_3b067_1 : decode cJ1_charAt_3b067 1 = .ok (.aload_n 0, 1) := by decide +kernel
theorem dJ1_charAt_3b067_2 : decode cJ1_charAt_3b067 2 = .ok (.arraylength, 1) := by decide +kernel
theorem dJ1_charAt_3b067_3 : decode cJ1_charAt_3b067 3 = .ok (.invokestatic 9, 3) := by decide +kernel
theorem dJ1_charAt_3b067_6 : decode cJ1_charAt_3b067 6 = .ok (.aload_n 0, 1) := by decide +kernel
theorem dJ1_charAt_3b067_7 : decode cJ1_charAt_3b067 7 = .ok (.iload_n 1, 1) := by decide +kernel
theorem dJ1_charAt_3b067_8 : decode cJ1_charAt_3b067 8 = .ok (.baload, 1) := by decide +kernel
theorem dJ1_charAt_3b067_9 : decode cJ1_charAt_3b067 9 = .ok (.sipush 255, 3) := by decide +kernel
theorem dJ1_charAt_3b067_12 : decode cJ1_charAt_3b067 12 = .ok (.iand, 1) := by decide +kernel
theorem dJ1_charAt_3b067_13 : decode cJ1_charAt_3b067 13 = .ok (.i2c, 1) := by decide +kernel
theorem dJ1_charAt_3b067_14 : decode cJ1_charAt_3b067 14 = .ok (.ireturn, 1) := by decide +kernel
theorem dJ2_getChar_3b067_0 : decode cJ2_getChar_3b067 0 = .ok (.getstatic 44, 3) := by decide +kernel
theorem dJ2_getChar_3b067_3 : decode cJ2_getChar_3b067 3 = .ok (.ifCond .ne 25, 3) := by decide +kernel
theorem dJ2_getChar_3b067_6 : decode cJ2_getChar_3b067 6 = .ok (.iload_n 1, 1) := by decide +kernel
theorem dJ2_getChar_3b067_7 : decode cJ2_getChar_3b067 7 = .ok (.ifCond .lt 11, 3) := by decide +kernel
theorem dJ2_getChar_3b067_10 : decode cJ2_getChar_3b067 10 = .ok (.iload_n 1, 1) := by decide +kernel
theorem dJ2_getChar_3b067_11 : decode cJ2_getChar_3b067 11 = .ok (.aload_n 0, 1) := by decide +kernel
theorem dJ2_getChar_3b067_12 : decode cJ2_getChar_3b067 12 = .ok (.invokestatic 48, 3) := by decide +kernel
theorem dJ2_getChar_3b067_15 : decode cJ2_getChar_3b067 15 = .ok (.if_icmp .lt 13, 3) := by decide +kernel
theorem dJ2_getChar_3b067_18 : decode cJ2_getChar_3b067 18 = .ok (.new 52, 3) := by decide +kernel
theorem dJ2_getChar_3b067_21 : decode cJ2_getChar_3b067 21 = .ok (.dup, 1) := by decide +kernel
theorem dJ2_getChar_3b067_22 : decode cJ2_getChar_3b067 22 = .ok (.ldc 54, 2) := by decide +kernel
theorem dJ2_getChar_3b067_24 : decode cJ2_getChar_3b067 24 = .ok (.invokespecial 56, 3) := by decide +kernel
theorem dJ2_getChar_3b067_27 : decode cJ2_getChar_3b067 27 = .ok (.athrow, 1) := by decide +kernel
theorem dJ2_getChar_3b067_28 : decode cJ2_getChar_3b067 28 = .ok (.iload_n 1, 1) := by decide +kernel
theorem dJ2_getChar_3b067_29 : decode cJ2_getChar_3b067 29 = .ok (.iconst 1, 1) := by decide +kernel
theorem dJ2_getChar_3b067_30 : decode cJ2_getChar_3b067 30 = .ok (.ishl, 1) := by decide +kernel
theorem dJ2_getChar_3b067_31 : decode cJ2_getChar_3b067 31 = .ok (.istore_n 1, 1) := by decide +kernel
theorem dJ2_getChar_3b067_32 : decode cJ2_getChar_3b067 32 = .ok (.aload_n 0, 1) := by decide +kernel
theorem dJ2_getChar_3b067_33 : decode cJ2_getChar_3b067 33 = .ok (.iload_n 1, 1) := by decide +kernel
theorem dJ2_getChar_3b067_34 : decode cJ2_getChar_3b067 34 = .ok (.iinc 1 1, 3) := by decide +kernel
theorem dJ2_getChar_3b067_37 : decode cJ2_getChar_3b067 37 = .ok (.baload, 1) := by decide +kernel
theorem dJ2_getChar_3b067_38 : decode cJ2_getChar_3b067 38 = .ok (.sipush 255, 3) := by decide +kernel
theorem dJ2_getChar_3b067_41 : decode cJ2_getChar_3b067 41 = .ok (.iand, 1) := by decide +kernel
theorem dJ2_getChar_3b067_42 : decode cJ2_getChar_3b067 42 = .ok (.getstatic 59, 3) := by decide +kernel
theorem dJ2_getChar_3b067_45 : decode cJ2_getChar_3b067 45 = .ok (.ishl, 1) := by decide +kernel
theorem dJ2_getChar_3b067_46 : decode cJ2_getChar_3b067 46 = .ok (.aload_n 0, 1) := by decide +kernel
theorem dJ2_getChar_3b067_47 : decode cJ2_getChar_3b067 47 = .ok (.iload_n 1, 1) := by decide +kernel
theorem dJ2_getChar_3b067_48 : decode cJ2_getChar_3b067 48 = .ok (.baload, 1) := by decide +kernel
theorem dJ2_getChar_3b067_49 : decode cJ2_getChar_3b067 49 = .ok (.sipush 255, 3) := by decide +kernel
theorem dJ2_getChar_3b067_52 : decode cJ2_getChar_3b067 52 = .ok (.iand, 1) := by decide +kernel
theorem dJ2_getChar_3b067_53 : decode cJ2_getChar_3b067 53 = .ok (.getstatic 63, 3) := by decide +kernel
theorem dJ2_getChar_3b067_56 : decode cJ2_getChar_3b067 56 = .ok (.ishl, 1) := by decide +kernel
theorem dJ2_getChar_3b067_57 : decode cJ2_getChar_3b067 57 = .ok (.ior, 1) := by decide +kernel
theorem dJ2_getChar_3b067_58 : decode cJ2_getChar_3b067 58 = .ok (.i2c, 1) := by decide +kernel
theorem dJ2_getChar_3b067_59 : decode cJ2_getChar_3b067 59 = .ok (.ireturn, 1) := by decide +kernel
theorem dJ2_length_9d52b_0 : decode cJ2_length_9d52b 0 = .ok (.aload_n 0, 1) := by decide +kernel
theorem dJ2_length_9d52b_1 : decode cJ2_length_9d52b 1 = .ok (.arraylength, 1) := by decide +kernel
theorem dJ2_length_9d52b_2 : decode cJ2_length_9d52b 2 = .ok (.iconst 1, 1) := by decide +kernel
theorem dJ2_length_9d52b_3 : decode cJ2_length_9d52b 3 = .ok (.ishr, 1) := by decide +kernel
theorem dJ2_length_9d52b_4 : decode cJ2_length_9d52b 4 = .ok (.ireturn, 1) := by decide +kernel
theorem dJ2_charAt_3b067_0 : decode cJ2_charAt_3b067 0 = .ok (.iload_n 1, 1) := by decide +kernel
theorem dJ2_charAt_3b067_1 : decode cJ2_charAt_3b067 1 = .ok (.aload_n 0, 1) := by decide +kernel
theorem dJ2_charAt_3b067_2 : decode cJ2_charAt_3b067 2 = .ok (.invokestatic 67, 3) := by decide +kernel
theorem dJ2_charAt_3b067_5 : decode cJ2_charAt_3b067 5 = .ok (.aload_n 0, 1) := by decide +kernel
theorem dJ2_charAt_3b067_6 : decode cJ2_charAt_3b067 6 = .ok (.iload_n 1, 1) := by decide +kernel
theorem dJ2_charAt_3b067_7 : decode cJ2_charAt_3b067 7 = .ok (.invokestatic 71, 3) := by decide +kernel
theorem dJ2_charAt_3b067_10 : decode cJ2_charAt_3b067 10 = .ok (.ireturn, 1) := by decide +kernel
theorem dJ2_checkIndex_2214a_0 : decode cJ2_checkIndex_2214a 0 = .ok (.iload_n 0, 1) := by decide +kernel
theorem dJ2_checkIndex_2214a_1 : decode cJ2_checkIndex_2214a 1 = .ok (.aload_n 1, 1) := by decide +kernel
theorem dJ2_checkIndex_2214a_2 : decode cJ2_checkIndex_2214a 2 = .ok (.invokestatic 48, 3) := by decide +kernel
theorem dJ2_checkIndex_2214a_5 : decode cJ2_checkIndex_2214a 5 = .ok (.invokestatic 414, 3) := by decide +kernel
theorem dJ2_checkIndex_2214a_8 : decode cJ2_checkIndex_2214a 8 = .ok (.return_, 1) := by decide +kernel
theorem dJ3_checkIndex_8e157_0 : decode cJ3_checkIndex_8e157 0 = .ok (.iload_n 0, 1) := by decide +kernel
theorem dJ3_checkIndex_8e157_1 : decode cJ3_checkIndex_8e157 1 = .ok (.ifCond .lt 8, 3) := by decide +kernel
theorem dJ3_checkIndex_8e157_4 : decode cJ3_checkIndex_8e157 4 = .ok (.iload_n 0, 1) := by decide +kernel
theorem dJ3_checkIndex_8e157_5 : decode cJ3_checkIndex_8e157 5 = .ok (.iload_n 1, 1) := by decide +kernel
theorem dJ3_checkIndex_8e157_6 : decode cJ3_checkIndex_8e157 6 = .ok (.if_icmp .lt 10, 3) := by decide +kernel
theorem dJ3_checkIndex_8e157_9 : decode cJ3_checkIndex_8e157 9 = .ok (.aload_n 2, 1) := by decide +kernel
theorem dJ3_checkIndex_8e157_10 : decode cJ3_checkIndex_8e157 10 = .ok (.iload_n 0, 1) := by decide +kernel
theorem dJ3_checkIndex_8e157_11 : decode cJ3_checkIndex_8e157 11 = .ok (.iload_n 1, 1) := by decide +kernel
theorem dJ3_checkIndex_8e157_12 : decode cJ3_checkIndex_8e157 12 = .ok (.invokestatic 95, 3) := by decide +kernel
theorem dJ3_checkIndex_8e157_15 : decode cJ3_checkIndex_8e157 15 = .ok (.athrow, 1) := by decide +kernel
theorem dJ3_checkIndex_8e157_16 : decode cJ3_checkIndex_8e157 16 = .ok (.iload_n 0, 1) := by decide +kernel
theorem dJ3_checkIndex_8e157_17 : decode cJ3_checkIndex_8e157 17 = .ok (.ireturn, 1) := by decide +kernel
theorem dL_law_0 : decode cL_law 0 = .ok (.new 7, 3) := by decide +kernel
theorem dL_law_3 : decode cL_law 3 = .ok (.dup, 1) := by decide +kernel
theorem dL_law_4 : decode cL_law 4 = .ok (.invokespecial 9, 3) := by decide +kernel
theorem dL_law_7 : decode cL_law 7 = .ok (.astore_n 1, 1) := by decide +kernel
theorem dL_law_8 : decode cL_law 8 = .ok (.new 10, 3) := by decide +kernel
theorem dL_law_11 : decode cL_law 11 = .ok (.dup, 1) := by decide +kernel
theorem dL_law_12 : decode cL_law 12 = .ok (.invokespecial 12, 3) := by decide +kernel
theorem dL_law_15 : decode cL_law 15 = .ok (.astore_n 2, 1) := by decide +kernel
theorem dL_law_16 : decode cL_law 16 = .ok (.iconst 0, 1) := by decide +kernel
theorem dL_law_17 : decode cL_law 17 = .ok (.istore_n 3, 1) := by decide +kernel
theorem dL_law_18 : decode cL_law 18 = .ok (.iload_n 3, 1) := by decide +kernel
theorem dL_law_19 : decode cL_law 19 = .ok (.aload_n 0, 1) := by decide +kernel
theorem dL_law_20 : decode cL_law 20 = .ok (.arraylength, 1) := by decide +kernel
theorem dL_law_21 : decode cL_law 21 = .ok (.bipush 6, 2) := by decide +kernel
theorem dL_law_23 : decode cL_law 23 = .ok (.isub, 1) := by decide +kernel
theorem dL_law_24 : decode cL_law 24 = .ok (.if_icmp .gt 1187, 3) := by decide +kernel
theorem dL_law_27 : decode cL_law 27 = .ok (.aload_n 0, 1) := by decide +kernel
theorem dL_law_28 : decode cL_law 28 = .ok (.iload_n 3, 1) := by decide +kernel
theorem dL_law_29 : decode cL_law 29 = .ok (.iaload, 1) := by decide +kernel
theorem dL_law_30 : decode cL_law 30 = .ok (.bipush 63, 2) := by decide +kernel
theorem dL_law_32 : decode cL_law 32 = .ok (.iand, 1) := by decide +kernel
theorem dL_law_33 : decode cL_law 33 = .ok (.tableswitch 1172 0 36 #[163, 226, 249, 262, 275, 318, 351, 384, 407, 430, 453, 496, 529, 552, 575, 588, 611, 644, 687, 720, 733, 746, 759, 782, 805, 818, 851, 904, 947, 970, 983, 1016, 1059, 1100, 1113, 1136, 1149], 163) := by decide +kernel
theorem dL_law_196 : decode cL_law 196 = .ok (.aload_n 1, 1) := by decide +kernel
theorem dL_law_197 : decode cL_law 197 = .ok (.aload_n 0, 1) := by decide +kernel
theorem dL_law_198 : decode cL_law 198 = .ok (.iload_n 3, 1) := by decide +kernel
theorem dL_law_199 : decode cL_law 199 = .ok (.iconst 1, 1) := by decide +kernel
theorem dL_law_200 : decode cL_law 200 = .ok (.iadd, 1) := by decide +kernel
theorem dL_law_201 : decode cL_law 201 = .ok (.iaload, 1) := by decide +kernel
theorem dL_law_202 : decode cL_law 202 = .ok (.aload_n 0, 1) := by decide +kernel
theorem dL_law_203 : decode cL_law 203 = .ok (.iload_n 3, 1) := by decide +kernel
theorem dL_law_204 : decode cL_law 204 = .ok (.iconst 2, 1) := by decide +kernel
theorem dL_law_205 : decode cL_law 205 = .ok (.iadd, 1) := by decide +kernel
theorem dL_law_206 : decode cL_law 206 = .ok (.iaload, 1) := by decide +kernel
theorem dL_law_207 : decode cL_law 207 = .ok (.aload_n 0, 1) := by decide +kernel
theorem dL_law_208 : decode cL_law 208 = .ok (.iload_n 3, 1) := by decide +kernel
theorem dL_law_209 : decode cL_law 209 = .ok (.iconst 3, 1) := by decide +kernel
theorem dL_law_210 : decode cL_law 210 = .ok (.iadd, 1) := by decide +kernel
theorem dL_law_211 : decode cL_law 211 = .ok (.iaload, 1) := by decide +kernel
theorem dL_law_212 : decode cL_law 212 = .ok (.aload_n 0, 1) := by decide +kernel
theorem dL_law_213 : decode cL_law 213 = .ok (.iload_n 3, 1) := by decide +kernel
theorem dL_law_214 : decode cL_law 214 = .ok (.iconst 4, 1) := by decide +kernel
theorem dL_law_215 : decode cL_law 215 = .ok (.iadd, 1) := by decide +kernel
theorem dL_law_216 : decode cL_law 216 = .ok (.iaload, 1) := by decide +kernel
theorem dL_law_217 : decode cL_law 217 = .ok (.aload_n 0, 1) := by decide +kernel
theorem dL_law_218 : decode cL_law 218 = .ok (.iload_n 3, 1) := by decide +kernel
theorem dL_law_219 : decode cL_law 219 = .ok (.iconst 5, 1) := by decide +kernel
theorem dL_law_220 : decode cL_law 220 = .ok (.iadd, 1) := by decide +kernel
theorem dL_law_221 : decode cL_law 221 = .ok (.iaload, 1) := by decide +kernel
theorem dL_law_222 : decode cL_law 222 = .ok (.invokevirtual 13, 3) := by decide +kernel
theorem dL_law_225 : decode cL_law 225 = .ok (.aload_n 2, 1) := by decide +kernel
theorem dL_law_226 : decode cL_law 226 = .ok (.aload_n 0, 1) := by decide +kernel
theorem dL_law_227 : decode cL_law 227 = .ok (.iload_n 3, 1) := by decide +kernel
theorem dL_law_228 : decode cL_law 228 = .ok (.iconst 1, 1) := by decide +kernel
theorem dL_law_229 : decode cL_law 229 = .ok (.iadd, 1) := by decide +kernel
theorem dL_law_230 : decode cL_law 230 = .ok (.iaload, 1) := by decide +kernel
theorem dL_law_231 : decode cL_law 231 = .ok (.aload_n 0, 1) := by decide +kernel
theorem dL_law_232 : decode cL_law 232 = .ok (.iload_n 3, 1) := by decide +kernel
theorem dL_law_233 : decode cL_law 233 = .ok (.iconst 2, 1) := by decide +kernel
theorem dL_law_234 : decode cL_law 234 = .ok (.iadd, 1) := by decide +kernel
theorem dL_law_235 : decode cL_law 235 = .ok (.iaload, 1) := by decide +kernel
theorem dL_law_236 : decode cL_law 236 = .ok (.aload_n 0, 1) := by decide +kernel
theorem dL_law_237 : decode cL_law 237 = .ok (.iload_n 3, 1) := by decide +kernel
theorem dL_law_238 : decode cL_law 238 = .ok (.iconst 3, 1) := by decide +kernel
theorem dL_law_239 : decode cL_law 239 = .ok (.iadd, 1) := by decide +kernel
theorem dL_law_240 : decode cL_law 240 = .ok (.iaload, 1) := by decide +kernel
theorem dL_law_241 : decode cL_law 241 = .ok (.aload_n 0, 1) := by decide +kernel
theorem dL_law_242 : decode cL_law 242 = .ok (.iload_n 3, 1) := by decide +kernel
theorem dL_law_243 : decode cL_law 243 = .ok (.iconst 4, 1) := by decide +kernel
theorem dL_law_244 : decode cL_law 244 = .ok (.iadd, 1) := by decide +kernel
theorem dL_law_245 : decode cL_law 245 = .ok (.iaload, 1) := by decide +kernel
theorem dL_law_246 : decode cL_law 246 = .ok (.aload_n 0, 1) := by decide +kernel
theorem dL_law_247 : decode cL_law 247 = .ok (.iload_n 3, 1) := by decide +kernel
theorem dL_law_248 : decode cL_law 248 = .ok (.iconst 5, 1) := by decide +kernel
theorem dL_law_249 : decode cL_law 249 = .ok (.iadd, 1) := by decide +kernel
theorem dL_law_250 : decode cL_law 250 = .ok (.iaload, 1) := by decide +kernel
theorem dL_law_251 : decode cL_law 251 = .ok (.invokevirtual 17, 3) := by decide +kernel
theorem dL_law_254 : decode cL_law 254 = .ok (.if_icmp .eq 951, 3) := by decide +kernel
theorem dL_law_257 : decode cL_law 257 = .ok (.iconst 0, 1) := by decide +kernel
theorem dL_law_258 : decode cL_law 258 = .ok (.ireturn, 1) := by decide +kernel
theorem dL_law_259 : decode cL_law 259 = .ok (.aload_n 1, 1) := by decide +kernel
theorem dL_law_260 : decode cL_law 260 = .ok (.aload_n 0, 1) := by decide +kernel
theorem dL_law_261 : decode cL_law 261 = .ok (.iload_n 3, 1) := by decide +kernel
theorem dL_law_262 : decode cL_law 262 = .ok (.iconst 1, 1) := by decide +kernel
theorem dL_law_263 : decode cL_law 263 = .ok (.iadd, 1) := by decide +kernel
theorem dL_law_264 : decode cL_law 264 = .ok (.iaload, 1) := by decide +kernel
theorem dL_law_265 : decode cL_law 265 = .ok (.invokevirtual 18, 3) := by decide +kernel
theorem dL_law_268 : decode cL_law 268 = .ok (.aload_n 2, 1) := by decide +kernel
theorem dL_law_269 : decode cL_law 269 = .ok (.aload_n 0, 1) := by decide +kernel
theorem dL_law_270 : decode cL_law 270 = .ok (.iload_n 3, 1) := by decide +kernel
theorem dL_law_271 : decode cL_law 271 = .ok (.iconst 1, 1) := by decide +kernel
theorem dL_law_272 : decode cL_law 272 = .ok (.iadd, 1) := by decide +kernel
theorem dL_law_273 : decode cL_law 273 = .ok (.iaload, 1) := by decide +kernel
theorem dL_law_274 : decode cL_law 274 = .ok (.invokevirtual 22, 3) := by decide +kernel
theorem dL_law_277 : decode cL_law 277 = .ok (.if_icmp .eq 928, 3) := by decide +kernel
theorem dL_law_280 : decode cL_law 280 = .ok (.iconst 0, 1) := by decide +kernel
theorem dL_law_281 : decode cL_law 281 = .ok (.ireturn, 1) := by decide +kernel
theorem dL_law_282 : decode cL_law 282 = .ok (.aload_n 1, 1) := by decide +kernel
theorem dL_law_283 : decode cL_law 283 = .ok (.invokevirtual 23, 3) := by decide +kernel
theorem dL_law_286 : decode cL_law 286 = .ok (.aload_n 2, 1) := by decide +kernel
theorem dL_law_287 : decode cL_law 287 = .ok (.invokevirtual 27, 3) := by decide +kernel
theorem dL_law_290 : decode cL_law 290 = .ok (.if_icmp .eq 915, 3) := by decide +kernel
theorem dL_law_293 : decode cL_law 293 = .ok (.iconst 0, 1) := by decide +kernel
theorem dL_law_294 : decode cL_law 294 = .ok (.ireturn, 1) := by decide +kernel
theorem dL_law_295 : decode cL_law 295 = .ok (.aload_n 1, 1) := by decide +kernel
theorem dL_law_296 : decode cL_law 296 = .ok (.invokevirtual 28, 3) := by decide +kernel
theorem dL_law_299 : decode cL_law 299 = .ok (.aload_n 2, 1) := by decide +kernel
theorem dL_law_300 : decode cL_law 300 = .ok (.invokevirtual 31, 3) := by decide +kernel
theorem dL_law_303 : decode cL_law 303 = .ok (.if_icmp .eq 902, 3) := by decide +kernel
theorem dL_law_306 : decode cL_law 306 = .ok (.iconst 0, 1) := by decide +kernel
theorem dL_law_307 : decode cL_law 307 = .ok (.ireturn, 1) := by decide +kernel
theorem dL_law_308 : decode cL_law 308 = .ok (.aload_n 1, 1) := by decide +kernel
theorem dL_law_309 : decode cL_law 309 = .ok (.aload_n 0, 1) := by decide +kernel
theorem dL_law_310 : decode cL_law 310 = .ok (.iload_n 3, 1) := by decide +kernel
theorem dL_law_311 : decode cL_law 311 = .ok (.iconst 1, 1) := by decide +kernel
theorem dL_law_312 : decode cL_law 312 = .ok (.iadd, 1) := by decide +kernel
theorem dL_law_313 : decode cL_law 313 = .ok (.iaload, 1) := by decide +kernel
theorem dL_law_314 : decode cL_law 314 = .ok (.aload_n 0, 1) := by decide +kernel
theorem dL_law_315 : decode cL_law 315 = .ok (.iload_n 3, 1) := by decide +kernel
theorem dL_law_316 : decode cL_law 316 = .ok (.iconst 2, 1) := by decide +kernel
theorem dL_law_317 : decode cL_law 317 = .ok (.iadd, 1) := by decide +kernel
theorem dL_law_318 : decode cL_law 318 = .ok (.iaload, 1) := by decide +kernel
theorem dL_law_319 : decode cL_law 319 = .ok (.aload_n 0, 1) := by decide +kernel
theorem dL_law_320 : decode cL_law 320 = .ok (.iload_n 3, 1) := by decide +kernel
theorem dL_law_321 : decode cL_law 321 = .ok (.iconst 3, 1) := by decide +kernel
theorem dL_law_322 : decode cL_law 322 = .ok (.iadd, 1) := by decide +kernel
theorem dL_law_323 : decode cL_law 323 = .ok (.iaload, 1) := by decide +kernel
theorem dL_law_324 : decode cL_law 324 = .ok (.invokevirtual 32, 3) := by decide +kernel
theorem dL_law_327 : decode cL_law 327 = .ok (.aload_n 2, 1) := by decide +kernel
theorem dL_law_328 : decode cL_law 328 = .ok (.aload_n 0, 1) := by decide +kernel
theorem dL_law_329 : decode cL_law 329 = .ok (.iload_n 3, 1) := by decide +kernel
theorem dL_law_330 : decode cL_law 330 = .ok (.iconst 1, 1) := by decide +kernel
theorem dL_law_331 : decode cL_law 331 = .ok (.iadd, 1) := by decide +kernel
theorem dL_law_332 : decode cL_law 332 = .ok (.iaload, 1) := by decide +kernel
theorem dL_law_333 : decode cL_law 333 = .ok (.aload_n 0, 1) := by decide +kernel
theorem dL_law_334 : decode cL_law 334 = .ok (.iload_n 3, 1) := by decide +kernel
theorem dL_law_335 : decode cL_law 335 = .ok (.iconst 2, 1) := by decide +kernel
theorem dL_law_336 : decode cL_law 336 = .ok (.iadd, 1) := by decide +kernel
theorem dL_law_337 : decode cL_law 337 = .ok (.iaload, 1) := by decide +kernel
theorem dL_law_338 : decode cL_law 338 = .ok (.aload_n 0, 1) := by decide +kernel
theorem dL_law_339 : decode cL_law 339 = .ok (.iload_n 3, 1) := by decide +kernel
theorem dL_law_340 : decode cL_law 340 = .ok (.iconst 3, 1) := by decide +kernel
theorem dL_law_341 : decode cL_law 341 = .ok (.iadd, 1) := by decide +kernel
theorem dL_law_342 : decode cL_law 342 = .ok (.iaload, 1) := by decide +kernel
theorem dL_law_343 : decode cL_law 343 = .ok (.invokevirtual 36, 3) := by decide +kernel
theorem dL_law_346 : decode cL_law 346 = .ok (.if_icmp .eq 859, 3) := by decide +kernel
theorem dL_law_349 : decode cL_law 349 = .ok (.iconst 0, 1) := by decide +kernel
theorem dL_law_350 : decode cL_law 350 = .ok (.ireturn, 1) := by decide +kernel
theorem dL_law_351 : decode cL_law 351 = .ok (.aload_n 1, 1) := by decide +kernel
theorem dL_law_352 : decode cL_law 352 = .ok (.aload_n 0, 1) := by decide +kernel
theorem dL_law_353 : decode cL_law 353 = .ok (.iload_n 3, 1) := by decide +kernel
theorem dL_law_354 : decode cL_law 354 = .ok (.iconst 1, 1) := by decide +kernel
theorem dL_law_355 : decode cL_law 355 = .ok (.iadd, 1) := by decide +kernel
theorem dL_law_356 : decode cL_law 356 = .ok (.iaload, 1) := by decide +kernel
theorem dL_law_357 : decode cL_law 357 = .ok (.aload_n 0, 1) := by decide +kernel
theorem dL_law_358 : decode cL_law 358 = .ok (.iload_n 3, 1) := by decide +kernel
theorem dL_law_359 : decode cL_law 359 = .ok (.iconst 2, 1) := by decide +kernel
theorem dL_law_360 : decode cL_law 360 = .ok (.iadd, 1) := by decide +kernel
theorem dL_law_361 : decode cL_law 361 = .ok (.iaload, 1) := by decide +kernel
theorem dL_law_362 : decode cL_law 362 = .ok (.invokevirtual 37, 3) := by decide +kernel
theorem dL_law_365 : decode cL_law 365 = .ok (.aload_n 2, 1) := by decide +kernel
theorem dL_law_366 : decode cL_law 366 = .ok (.aload_n 0, 1) := by decide +kernel
theorem dL_law_367 : decode cL_law 367 = .ok (.iload_n 3, 1) := by decide +kernel
theorem dL_law_368 : decode cL_law 368 = .ok (.iconst 1, 1) := by decide +kernel
theorem dL_law_369 : decode cL_law 369 = .ok (.iadd, 1) := by decide +kernel
theorem dL_law_370 : decode cL_law 370 = .ok (.iaload, 1) := by decide +kernel
theorem dL_law_371 : decode cL_law 371 = .ok (.aload_n 0, 1) := by decide +kernel
theorem dL_law_372 : decode cL_law 372 = .ok (.iload_n 3, 1) := by decide +kernel
theorem dL_law_373 : decode cL_law 373 = .ok (.iconst 2, 1) := by decide +kernel
theorem dL_law_374 : decode cL_law 374 = .ok (.iadd, 1) := by decide +kernel
theorem dL_law_375 : decode cL_law 375 = .ok (.iaload, 1) := by decide +kernel
theorem dL_law_376 : decode cL_law 376 = .ok (.invokevirtual 41, 3) := by decide +kernel
theorem dL_law_379 : decode cL_law 379 = .ok (.if_icmp .eq 826, 3) := by decide +kernel
theorem dL_law_382 : decode cL_law 382 = .ok (.iconst 0, 1) := by decide +kernel
theorem dL_law_383 : decode cL_law 383 = .ok (.ireturn, 1) := by decide +kernel
theorem dL_law_384 : decode cL_law 384 = .ok (.aload_n 1, 1) := by decide +kernel
theorem dL_law_385 : decode cL_law 385 = .ok (.aload_n 0, 1) := by decide +kernel
theorem dL_law_386 : decode cL_law 386 = .ok (.iload_n 3, 1) := by decide +kernel
theorem dL_law_387 : decode cL_law 387 = .ok (.iconst 1, 1) := by decide +kernel
theorem dL_law_388 : decode cL_law 388 = .ok (.iadd, 1) := by decide +kernel
theorem dL_law_389 : decode cL_law 389 = .ok (.iaload, 1) := by decide +kernel
theorem dL_law_390 : decode cL_law 390 = .ok (.aload_n 0, 1) := by decide +kernel
theorem dL_law_391 : decode cL_law 391 = .ok (.iload_n 3, 1) := by decide +kernel
theorem dL_law_392 : decode cL_law 392 = .ok (.iconst 2, 1) := by decide +kernel
theorem dL_law_393 : decode cL_law 393 = .ok (.iadd, 1) := by decide +kernel
theorem dL_law_394 : decode cL_law 394 = .ok (.iaload, 1) := by decide +kernel
theorem dL_law_395 : decode cL_law 395 = .ok (.invokevirtual 42, 3) := by decide +kernel
theorem dL_law_398 : decode cL_law 398 = .ok (.aload_n 2, 1) := by decide +kernel
theorem dL_law_399 : decode cL_law 399 = .ok (.aload_n 0, 1) := by decide +kernel
theorem dL_law_400 : decode cL_law 400 = .ok (.iload_n 3, 1) := by decide +kernel
theorem dL_law_401 : decode cL_law 401 = .ok (.iconst 1, 1) := by decide +kernel
theorem dL_law_402 : decode cL_law 402 = .ok (.iadd, 1) := by decide +kernel
theorem dL_law_403 : decode cL_law 403 = .ok (.iaload, 1) := by decide +kernel
theorem dL_law_404 : decode cL_law 404 = .ok (.aload_n 0, 1) := by decide +kernel
theorem dL_law_405 : decode cL_law 405 = .ok (.iload_n 3, 1) := by decide +kernel
theorem dL_law_406 : decode cL_law 406 = .ok (.iconst 2, 1) := by decide +kernel
theorem dL_law_407 : decode cL_law 407 = .ok (.iadd, 1) := by decide +kernel
theorem dL_law_408 : decode cL_law 408 = .ok (.iaload, 1) := by decide +kernel
theorem dL_law_409 : decode cL_law 409 = .ok (.invokevirtual 45, 3) := by decide +kernel
theorem dL_law_412 : decode cL_law 412 = .ok (.if_icmp .eq 793, 3) := by decide +kernel
theorem dL_law_415 : decode cL_law 415 = .ok (.iconst 0, 1) := by decide +kernel
theorem dL_law_416 : decode cL_law 416 = .ok (.ireturn, 1) := by decide +kernel
theorem dL_law_417 : decode cL_law 417 = .ok (.aload_n 1, 1) := by decide +kernel
theorem dL_law_418 : decode cL_law 418 = .ok (.aload_n 0, 1) := by decide +kernel
theorem dL_law_419 : decode cL_law 419 = .ok (.iload_n 3, 1) := by decide +kernel
theorem dL_law_420 : decode cL_law 420 = .ok (.iconst 1, 1) := by decide +kernel
theorem dL_law_421 : decode cL_law 421 = .ok (.iadd, 1) := by decide +kernel
theorem dL_law_422 : decode cL_law 422 = .ok (.iaload, 1) := by decide +kernel
theorem dL_law_423 : decode cL_law 423 = .ok (.invokevirtual 46, 3) := by decide +kernel
theorem dL_law_426 : decode cL_law 426 = .ok (.aload_n 2, 1) := by decide +kernel
theorem dL_law_427 : decode cL_law 427 = .ok (.aload_n 0, 1) := by decide +kernel
theorem dL_law_428 : decode cL_law 428 = .ok (.iload_n 3, 1) := by decide +kernel
theorem dL_law_429 : decode cL_law 429 = .ok (.iconst 1, 1) := by decide +kernel
theorem dL_law_430 : decode cL_law 430 = .ok (.iadd, 1) := by decide +kernel
theorem dL_law_431 : decode cL_law 431 = .ok (.iaload, 1) := by decide +kernel
theorem dL_law_432 : decode cL_law 432 = .ok (.invokevirtual 49, 3) := by decide +kernel
theorem dL_law_435 : decode cL_law 435 = .ok (.if_icmp .eq 770, 3) := by decide +kernel
theorem dL_law_438 : decode cL_law 438 = .ok (.iconst 0, 1) := by decide +kernel
theorem dL_law_439 : decode cL_law 439 = .ok (.ireturn, 1) := by decide +kernel
theorem dL_law_440 : decode cL_law 440 = .ok (.aload_n 1, 1) := by decide +kernel
theorem dL_law_441 : decode cL_law 441 = .ok (.aload_n 0, 1) := by decide +kernel
theorem dL_law_442 : decode cL_law 442 = .ok (.iload_n 3, 1) := by decide +kernel
theorem dL_law_443 : decode cL_law 443 = .ok (.iconst 1, 1) := by decide +kernel
theorem dL_law_444 : decode cL_law 444 = .ok (.iadd, 1) := by decide +kernel
theorem dL_law_445 : decode cL_law 445 = .ok (.iaload, 1) := by decide +kernel
theorem dL_law_446 : decode cL_law 446 = .ok (.invokevirtual 50, 3) := by decide +kernel
theorem dL_law_449 : decode cL_law 449 = .ok (.aload_n 2, 1) := by decide +kernel
theorem dL_law_450 : decode cL_law 450 = .ok (.aload_n 0, 1) := by decide +kernel
theorem dL_law_451 : decode cL_law 451 = .ok (.iload_n 3, 1) := by decide +kernel
theorem dL_law_452 : decode cL_law 452 = .ok (.iconst 1, 1) := by decide +kernel
theorem dL_law_453 : decode cL_law 453 = .ok (.iadd, 1) := by decide +kernel
theorem dL_law_454 : decode cL_law 454 = .ok (.iaload, 1) := by decide +kernel
theorem dL_law_455 : decode cL_law 455 = .ok (.invokevirtual 53, 3) := by decide +kernel
theorem dL_law_458 : decode cL_law 458 = .ok (.if_icmp .eq 747, 3) := by decide +kernel
theorem dL_law_461 : decode cL_law 461 = .ok (.iconst 0, 1) := by decide +kernel
theorem dL_law_462 : decode cL_law 462 = .ok (.ireturn, 1) := by decide +kernel
theorem dL_law_463 : decode cL_law 463 = .ok (.aload_n 1, 1) := by decide +kernel
theorem dL_law_464 : decode cL_law 464 = .ok (.aload_n 0, 1) := by decide +kernel
theorem dL_law_465 : decode cL_law 465 = .ok (.iload_n 3, 1) := by decide +kernel
theorem dL_law_466 : decode cL_law 466 = .ok (.iconst 1, 1) := by decide +kernel
theorem dL_law_467 : decode cL_law 467 = .ok (.iadd, 1) := by decide +kernel
theorem dL_law_468 : decode cL_law 468 = .ok (.iaload, 1) := by decide +kernel
theorem dL_law_469 : decode cL_law 469 = .ok (.invokevirtual 54, 3) := by decide +kernel
theorem dL_law_472 : decode cL_law 472 = .ok (.aload_n 2, 1) := by decide +kernel
theorem dL_law_473 : decode cL_law 473 = .ok (.aload_n 0, 1) := by decide +kernel
theorem dL_law_474 : decode cL_law 474 = .ok (.iload_n 3, 1) := by decide +kernel
theorem dL_law_475 : decode cL_law 475 = .ok (.iconst 1, 1) := by decide +kernel
theorem dL_law_476 : decode cL_law 476 = .ok (.iadd, 1) := by decide +kernel
theorem dL_law_477 : decode cL_law 477 = .ok (.iaload, 1) := by decide +kernel
theorem dL_law_478 : decode cL_law 478 = .ok (.invokevirtual 57, 3) := by decide +kernel
theorem dL_law_481 : decode cL_law 481 = .ok (.if_icmp .eq 724, 3) := by decide +kernel
theorem dL_law_484 : decode cL_law 484 = .ok (.iconst 0, 1) := by decide +kernel
theorem dL_law_485 : decode cL_law 485 = .ok (.ireturn, 1) := by decide +kernel
theorem dL_law_486 : decode cL_law 486 = .ok (.aload_n 1, 1) := by decide +kernel
theorem dL_law_487 : decode cL_law 487 = .ok (.aload_n 0, 1) := by decide +kernel
theorem dL_law_488 : decode cL_law 488 = .ok (.iload_n 3, 1) := by decide +kernel
theorem dL_law_489 : decode cL_law 489 = .ok (.iconst 1, 1) := by decide +kernel
theorem dL_law_490 : decode cL_law 490 = .ok (.iadd, 1) := by decide +kernel
theorem dL_law_491 : decode cL_law 491 = .ok (.iaload, 1) := by decide +kernel
theorem dL_law_492 : decode cL_law 492 = .ok (.aload_n 0, 1) := by decide +kernel
theorem dL_law_493 : decode cL_law 493 = .ok (.iload_n 3, 1) := by decide +kernel
theorem dL_law_494 : decode cL_law 494 = .ok (.iconst 2, 1) := by decide +kernel
theorem dL_law_495 : decode cL_law 495 = .ok (.iadd, 1) := by decide +kernel
theorem dL_law_496 : decode cL_law 496 = .ok (.iaload, 1) := by decide +kernel
theorem dL_law_497 : decode cL_law 497 = .ok (.aload_n 0, 1) := by decide +kernel
theorem dL_law_498 : decode cL_law 498 = .ok (.iload_n 3, 1) := by decide +kernel
theorem dL_law_499 : decode cL_law 499 = .ok (.iconst 3, 1) := by decide +kernel
theorem dL_law_500 : decode cL_law 500 = .ok (.iadd, 1) := by decide +kernel
theorem dL_law_501 : decode cL_law 501 = .ok (.iaload, 1) := by decide +kernel
theorem dL_law_502 : decode cL_law 502 = .ok (.invokevirtual 58, 3) := by decide +kernel
theorem dL_law_505 : decode cL_law 505 = .ok (.aload_n 2, 1) := by decide +kernel
theorem dL_law_506 : decode cL_law 506 = .ok (.aload_n 0, 1) := by decide +kernel
theorem dL_law_507 : decode cL_law 507 = .ok (.iload_n 3, 1) := by decide +kernel
theorem dL_law_508 : decode cL_law 508 = .ok (.iconst 1, 1) := by decide +kernel
theorem dL_law_509 : decode cL_law 509 = .ok (.iadd, 1) := by decide +kernel
theorem dL_law_510 : decode cL_law 510 = .ok (.iaload, 1) := by decide +kernel
theorem dL_law_511 : decode cL_law 511 = .ok (.aload_n 0, 1) := by decide +kernel
theorem dL_law_512 : decode cL_law 512 = .ok (.iload_n 3, 1) := by decide +kernel
theorem dL_law_513 : decode cL_law 513 = .ok (.iconst 2, 1) := by decide +kernel
theorem dL_law_514 : decode cL_law 514 = .ok (.iadd, 1) := by decide +kernel
theorem dL_law_515 : decode cL_law 515 = .ok (.iaload, 1) := by decide +kernel
theorem dL_law_516 : decode cL_law 516 = .ok (.aload_n 0, 1) := by decide +kernel
theorem dL_law_517 : decode cL_law 517 = .ok (.iload_n 3, 1) := by decide +kernel
theorem dL_law_518 : decode cL_law 518 = .ok (.iconst 3, 1) := by decide +kernel
theorem dL_law_519 : decode cL_law 519 = .ok (.iadd, 1) := by decide +kernel
theorem dL_law_520 : decode cL_law 520 = .ok (.iaload, 1) := by decide +kernel
theorem dL_law_521 : decode cL_law 521 = .ok (.invokevirtual 61, 3) := by decide +kernel
theorem dL_law_524 : decode cL_law 524 = .ok (.if_icmp .eq 681, 3) := by decide +kernel
theorem dL_law_527 : decode cL_law 527 = .ok (.iconst 0, 1) := by decide +kernel
theorem dL_law_528 : decode cL_law 528 = .ok (.ireturn, 1) := by decide +kernel
theorem dL_law_529 : decode cL_law 529 = .ok (.aload_n 1, 1) := by decide +kernel
theorem dL_law_530 : decode cL_law 530 = .ok (.aload_n 0, 1) := by decide +kernel
theorem dL_law_531 : decode cL_law 531 = .ok (.iload_n 3, 1) := by decide +kernel
theorem dL_law_532 : decode cL_law 532 = .ok (.iconst 1, 1) := by decide +kernel
theorem dL_law_533 : decode cL_law 533 = .ok (.iadd, 1) := by decide +kernel
theorem dL_law_534 : decode cL_law 534 = .ok (.iaload, 1) := by decide +kernel
theorem dL_law_535 : decode cL_law 535 = .ok (.aload_n 0, 1) := by decide +kernel
theorem dL_law_536 : decode cL_law 536 = .ok (.iload_n 3, 1) := by decide +kernel
theorem dL_law_537 : decode cL_law 537 = .ok (.iconst 2, 1) := by decide +kernel
theorem dL_law_538 : decode cL_law 538 = .ok (.iadd, 1) := by decide +kernel
theorem dL_law_539 : decode cL_law 539 = .ok (.iaload, 1) := by decide +kernel
theorem dL_law_540 : decode cL_law 540 = .ok (.invokevirtual 62, 3) := by decide +kernel
theorem dL_law_543 : decode cL_law 543 = .ok (.aload_n 2, 1) := by decide +kernel
theorem dL_law_544 : decode cL_law 544 = .ok (.aload_n 0, 1) := by decide +kernel
theorem dL_law_545 : decode cL_law 545 = .ok (.iload_n 3, 1) := by decide +kernel
theorem dL_law_546 : decode cL_law 546 = .ok (.iconst 1, 1) := by decide +kernel
theorem dL_law_547 : decode cL_law 547 = .ok (.iadd, 1) := by decide +kernel
theorem dL_law_548 : decode cL_law 548 = .ok (.iaload, 1) := by decide +kernel
theorem dL_law_549 : decode cL_law 549 = .ok (.aload_n 0, 1) := by decide +kernel
theorem dL_law_550 : decode cL_law 550 = .ok (.iload_n 3, 1) := by decide +kernel
theorem dL_law_551 : decode cL_law 551 = .ok (.iconst 2, 1) := by decide +kernel
theorem dL_law_552 : decode cL_law 552 = .ok (.iadd, 1) := by decide +kernel
theorem dL_law_553 : decode cL_law 553 = .ok (.iaload, 1) := by decide +kernel
theorem dL_law_554 : decode cL_law 554 = .ok (.invokevirtual 65, 3) := by decide +kernel
theorem dL_law_557 : decode cL_law 557 = .ok (.if_icmp .eq 648, 3) := by decide +kernel
theorem dL_law_560 : decode cL_law 560 = .ok (.iconst 0, 1) := by decide +kernel
theorem dL_law_561 : decode cL_law 561 = .ok (.ireturn, 1) := by decide +kernel
theorem dL_law_562 : decode cL_law 562 = .ok (.aload_n 1, 1) := by decide +kernel
theorem dL_law_563 : decode cL_law 563 = .ok (.aload_n 0, 1) := by decide +kernel
theorem dL_law_564 : decode cL_law 564 = .ok (.iload_n 3, 1) := by decide +kernel
theorem dL_law_565 : decode cL_law 565 = .ok (.iconst 1, 1) := by decide +kernel
theorem dL_law_566 : decode cL_law 566 = .ok (.iadd, 1) := by decide +kernel
theorem dL_law_567 : decode cL_law 567 = .ok (.iaload, 1) := by decide +kernel
theorem dL_law_568 : decode cL_law 568 = .ok (.invokevirtual 66, 3) := by decide +kernel
theorem dL_law_571 : decode cL_law 571 = .ok (.aload_n 2, 1) := by decide +kernel
theorem dL_law_572 : decode cL_law 572 = .ok (.aload_n 0, 1) := by decide +kernel
theorem dL_law_573 : decode cL_law 573 = .ok (.iload_n 3, 1) := by decide +kernel
theorem dL_law_574 : decode cL_law 574 = .ok (.iconst 1, 1) := by decide +kernel
theorem dL_law_575 : decode cL_law 575 = .ok (.iadd, 1) := by decide +kernel
theorem dL_law_576 : decode cL_law 576 = .ok (.iaload, 1) := by decide +kernel
theorem dL_law_577 : decode cL_law 577 = .ok (.invokevirtual 69, 3) := by decide +kernel
theorem dL_law_580 : decode cL_law 580 = .ok (.if_icmp .eq 625, 3) := by decide +kernel
theorem dL_law_583 : decode cL_law 583 = .ok (.iconst 0, 1) := by decide +kernel
theorem dL_law_584 : decode cL_law 584 = .ok (.ireturn, 1) := by decide +kernel
theorem dL_law_585 : decode cL_law 585 = .ok (.aload_n 1, 1) := by decide +kernel
theorem dL_law_586 : decode cL_law 586 = .ok (.aload_n 0, 1) := by decide +kernel
theorem dL_law_587 : decode cL_law 587 = .ok (.iload_n 3, 1) := by decide +kernel
theorem dL_law_588 : decode cL_law 588 = .ok (.iconst 1, 1) := by decide +kernel
theorem dL_law_589 : decode cL_law 589 = .ok (.iadd, 1) := by decide +kernel
theorem dL_law_590 : decode cL_law 590 = .ok (.iaload, 1) := by decide +kernel
theorem dL_law_591 : decode cL_law 591 = .ok (.invokevirtual 70, 3) := by decide +kernel
theorem dL_law_594 : decode cL_law 594 = .ok (.aload_n 2, 1) := by decide +kernel
theorem dL_law_595 : decode cL_law 595 = .ok (.aload_n 0, 1) := by decide +kernel
theorem dL_law_596 : decode cL_law 596 = .ok (.iload_n 3, 1) := by decide +kernel
theorem dL_law_597 : decode cL_law 597 = .ok (.iconst 1, 1) := by decide +kernel
theorem dL_law_598 : decode cL_law 598 = .ok (.iadd, 1) := by decide +kernel
theorem dL_law_599 : decode cL_law 599 = .ok (.iaload, 1) := by decide +kernel
theorem dL_law_600 : decode cL_law 600 = .ok (.invokevirtual 73, 3) := by decide +kernel
theorem dL_law_603 : decode cL_law 603 = .ok (.if_icmp .eq 602, 3) := by decide +kernel
theorem dL_law_606 : decode cL_law 606 = .ok (.iconst 0, 1) := by decide +kernel
theorem dL_law_607 : decode cL_law 607 = .ok (.ireturn, 1) := by decide +kernel
theorem dL_law_608 : decode cL_law 608 = .ok (.aload_n 1, 1) := by decide +kernel
theorem dL_law_609 : decode cL_law 609 = .ok (.invokevirtual 74, 3) := by decide +kernel
theorem dL_law_612 : decode cL_law 612 = .ok (.aload_n 2, 1) := by decide +kernel
theorem dL_law_613 : decode cL_law 613 = .ok (.invokevirtual 77, 3) := by decide +kernel
theorem dL_law_616 : decode cL_law 616 = .ok (.if_icmp .eq 589, 3) := by decide +kernel
theorem dL_law_619 : decode cL_law 619 = .ok (.iconst 0, 1) := by decide +kernel
theorem dL_law_620 : decode cL_law 620 = .ok (.ireturn, 1) := by decide +kernel
theorem dL_law_621 : decode cL_law 621 = .ok (.aload_n 1, 1) := by decide +kernel
theorem dL_law_622 : decode cL_law 622 = .ok (.aload_n 0, 1) := by decide +kernel
theorem dL_law_623 : decode cL_law 623 = .ok (.iload_n 3, 1) := by decide +kernel
theorem dL_law_624 : decode cL_law 624 = .ok (.iconst 1, 1) := by decide +kernel
theorem dL_law_625 : decode cL_law 625 = .ok (.iadd, 1) := by decide +kernel
theorem dL_law_626 : decode cL_law 626 = .ok (.iaload, 1) := by decide +kernel
theorem dL_law_627 : decode cL_law 627 = .ok (.invokevirtual 78, 3) := by decide +kernel
theorem dL_law_630 : decode cL_law 630 = .ok (.aload_n 2, 1) := by decide +kernel
theorem dL_law_631 : decode cL_law 631 = .ok (.aload_n 0, 1) := by decide +kernel
theorem dL_law_632 : decode cL_law 632 = .ok (.iload_n 3, 1) := by decide +kernel
theorem dL_law_633 : decode cL_law 633 = .ok (.iconst 1, 1) := by decide +kernel
theorem dL_law_634 : decode cL_law 634 = .ok (.iadd, 1) := by decide +kernel
theorem dL_law_635 : decode cL_law 635 = .ok (.iaload, 1) := by decide +kernel
theorem dL_law_636 : decode cL_law 636 = .ok (.invokevirtual 81, 3) := by decide +kernel
theorem dL_law_639 : decode cL_law 639 = .ok (.if_icmp .eq 566, 3) := by decide +kernel
theorem dL_law_642 : decode cL_law 642 = .ok (.iconst 0, 1) := by decide +kernel
theorem dL_law_643 : decode cL_law 643 = .ok (.ireturn, 1) := by decide +kernel
theorem dL_law_644 : decode cL_law 644 = .ok (.aload_n 1, 1) := by decide +kernel
theorem dL_law_645 : decode cL_law 645 = .ok (.aload_n 0, 1) := by decide +kernel
theorem dL_law_646 : decode cL_law 646 = .ok (.iload_n 3, 1) := by decide +kernel
theorem dL_law_647 : decode cL_law 647 = .ok (.iconst 1, 1) := by decide +kernel
theorem dL_law_648 : decode cL_law 648 = .ok (.iadd, 1) := by decide +kernel
theorem dL_law_649 : decode cL_law 649 = .ok (.iaload, 1) := by decide +kernel
theorem dL_law_650 : decode cL_law 650 = .ok (.aload_n 0, 1) := by decide +kernel
theorem dL_law_651 : decode cL_law 651 = .ok (.iload_n 3, 1) := by decide +kernel
theorem dL_law_652 : decode cL_law 652 = .ok (.iconst 2, 1) := by decide +kernel
theorem dL_law_653 : decode cL_law 653 = .ok (.iadd, 1) := by decide +kernel
theorem dL_law_654 : decode cL_law 654 = .ok (.iaload, 1) := by decide +kernel
theorem dL_law_655 : decode cL_law 655 = .ok (.invokevirtual 82, 3) := by decide +kernel
theorem dL_law_658 : decode cL_law 658 = .ok (.aload_n 2, 1) := by decide +kernel
theorem dL_law_659 : decode cL_law 659 = .ok (.aload_n 0, 1) := by decide +kernel
theorem dL_law_660 : decode cL_law 660 = .ok (.iload_n 3, 1) := by decide +kernel
theorem dL_law_661 : decode cL_law 661 = .ok (.iconst 1, 1) := by decide +kernel
theorem dL_law_662 : decode cL_law 662 = .ok (.iadd, 1) := by decide +kernel
theorem dL_law_663 : decode cL_law 663 = .ok (.iaload, 1) := by decide +kernel
theorem dL_law_664 : decode cL_law 664 = .ok (.aload_n 0, 1) := by decide +kernel
theorem dL_law_665 : decode cL_law 665 = .ok (.iload_n 3, 1) := by decide +kernel
theorem dL_law_666 : decode cL_law 666 = .ok (.iconst 2, 1) := by decide +kernel
theorem dL_law_667 : decode cL_law 667 = .ok (.iadd, 1) := by decide +kernel
theorem dL_law_668 : decode cL_law 668 = .ok (.iaload, 1) := by decide +kernel
theorem dL_law_669 : decode cL_law 669 = .ok (.invokevirtual 85, 3) := by decide +kernel
theorem dL_law_672 : decode cL_law 672 = .ok (.if_icmp .eq 533, 3) := by decide +kernel
theorem dL_law_675 : decode cL_law 675 = .ok (.iconst 0, 1) := by decide +kernel
theorem dL_law_676 : decode cL_law 676 = .ok (.ireturn, 1) := by decide +kernel
theorem dL_law_677 : decode cL_law 677 = .ok (.aload_n 1, 1) := by decide +kernel
theorem dL_law_678 : decode cL_law 678 = .ok (.aload_n 0, 1) := by decide +kernel
theorem dL_law_679 : decode cL_law 679 = .ok (.iload_n 3, 1) := by decide +kernel
theorem dL_law_680 : decode cL_law 680 = .ok (.iconst 1, 1) := by decide +kernel
theorem dL_law_681 : decode cL_law 681 = .ok (.iadd, 1) := by decide +kernel
theorem dL_law_682 : decode cL_law 682 = .ok (.iaload, 1) := by decide +kernel
theorem dL_law_683 : decode cL_law 683 = .ok (.aload_n 0, 1) := by decide +kernel
theorem dL_law_684 : decode cL_law 684 = .ok (.iload_n 3, 1) := by decide +kernel
theorem dL_law_685 : decode cL_law 685 = .ok (.iconst 2, 1) := by decide +kernel
theorem dL_law_686 : decode cL_law 686 = .ok (.iadd, 1) := by decide +kernel
theorem dL_law_687 : decode cL_law 687 = .ok (.iaload, 1) := by decide +kernel
theorem dL_law_688 : decode cL_law 688 = .ok (.aload_n 0, 1) := by decide +kernel
theorem dL_law_689 : decode cL_law 689 = .ok (.iload_n 3, 1) := by decide +kernel
theorem dL_law_690 : decode cL_law 690 = .ok (.iconst 3, 1) := by decide +kernel
theorem dL_law_691 : decode cL_law 691 = .ok (.iadd, 1) := by decide +kernel
theorem dL_law_692 : decode cL_law 692 = .ok (.iaload, 1) := by decide +kernel
theorem dL_law_693 : decode cL_law 693 = .ok (.invokevirtual 86, 3) := by decide +kernel
theorem dL_law_696 : decode cL_law 696 = .ok (.aload_n 2, 1) := by decide +kernel
theorem dL_law_697 : decode cL_law 697 = .ok (.aload_n 0, 1) := by decide +kernel
theorem dL_law_698 : decode cL_law 698 = .ok (.iload_n 3, 1) := by decide +kernel
theorem dL_law_699 : decode cL_law 699 = .ok (.iconst 1, 1) := by decide +kernel
theorem dL_law_700 : decode cL_law 700 = .ok (.iadd, 1) := by decide +kernel
theorem dL_law_701 : decode cL_law 701 = .ok (.iaload, 1) := by decide +kernel
theorem dL_law_702 : decode cL_law 702 = .ok (.aload_n 0, 1) := by decide +kernel
theorem dL_law_703 : decode cL_law 703 = .ok (.iload_n 3, 1) := by decide +kernel
theorem dL_law_704 : decode cL_law 704 = .ok (.iconst 2, 1) := by decide +kernel
theorem dL_law_705 : decode cL_law 705 = .ok (.iadd, 1) := by decide +kernel
theorem dL_law_706 : decode cL_law 706 = .ok (.iaload, 1) := by decide +kernel
theorem dL_law_707 : decode cL_law 707 = .ok (.aload_n 0, 1) := by decide +kernel
theorem dL_law_708 : decode cL_law 708 = .ok (.iload_n 3, 1) := by decide +kernel
theorem dL_law_709 : decode cL_law 709 = .ok (.iconst 3, 1) := by decide +kernel
theorem dL_law_710 : decode cL_law 710 = .ok (.iadd, 1) := by decide +kernel
theorem dL_law_711 : decode cL_law 711 = .ok (.iaload, 1) := by decide +kernel
theorem dL_law_712 : decode cL_law 712 = .ok (.invokevirtual 89, 3) := by decide +kernel
theorem dL_law_715 : decode cL_law 715 = .ok (.if_icmp .eq 490, 3) := by decide +kernel
theorem dL_law_718 : decode cL_law 718 = .ok (.iconst 0, 1) := by decide +kernel
theorem dL_law_719 : decode cL_law 719 = .ok (.ireturn, 1) := by decide +kernel
theorem dL_law_720 : decode cL_law 720 = .ok (.aload_n 1, 1) := by decide +kernel
theorem dL_law_721 : decode cL_law 721 = .ok (.aload_n 0, 1) := by decide +kernel
theorem dL_law_722 : decode cL_law 722 = .ok (.iload_n 3, 1) := by decide +kernel
theorem dL_law_723 : decode cL_law 723 = .ok (.iconst 1, 1) := by decide +kernel
theorem dL_law_724 : decode cL_law 724 = .ok (.iadd, 1) := by decide +kernel
theorem dL_law_725 : decode cL_law 725 = .ok (.iaload, 1) := by decide +kernel
theorem dL_law_726 : decode cL_law 726 = .ok (.aload_n 0, 1) := by decide +kernel
theorem dL_law_727 : decode cL_law 727 = .ok (.iload_n 3, 1) := by decide +kernel
theorem dL_law_728 : decode cL_law 728 = .ok (.iconst 2, 1) := by decide +kernel
theorem dL_law_729 : decode cL_law 729 = .ok (.iadd, 1) := by decide +kernel
theorem dL_law_730 : decode cL_law 730 = .ok (.iaload, 1) := by decide +kernel
theorem dL_law_731 : decode cL_law 731 = .ok (.invokevirtual 90, 3) := by decide +kernel
theorem dL_law_734 : decode cL_law 734 = .ok (.aload_n 2, 1) := by decide +kernel
theorem dL_law_735 : decode cL_law 735 = .ok (.aload_n 0, 1) := by decide +kernel
theorem dL_law_736 : decode cL_law 736 = .ok (.iload_n 3, 1) := by decide +kernel
theorem dL_law_737 : decode cL_law 737 = .ok (.iconst 1, 1) := by decide +kernel
theorem dL_law_738 : decode cL_law 738 = .ok (.iadd, 1) := by decide +kernel
theorem dL_law_739 : decode cL_law 739 = .ok (.iaload, 1) := by decide +kernel
theorem dL_law_740 : decode cL_law 740 = .ok (.aload_n 0, 1) := by decide +kernel
theorem dL_law_741 : decode cL_law 741 = .ok (.iload_n 3, 1) := by decide +kernel
theorem dL_law_742 : decode cL_law 742 = .ok (.iconst 2, 1) := by decide +kernel
theorem dL_law_743 : decode cL_law 743 = .ok (.iadd, 1) := by decide +kernel
theorem dL_law_744 : decode cL_law 744 = .ok (.iaload, 1) := by decide +kernel
theorem dL_law_745 : decode cL_law 745 = .ok (.invokevirtual 93, 3) := by decide +kernel
theorem dL_law_748 : decode cL_law 748 = .ok (.if_icmp .eq 457, 3) := by decide +kernel
theorem dL_law_751 : decode cL_law 751 = .ok (.iconst 0, 1) := by decide +kernel
theorem dL_law_752 : decode cL_law 752 = .ok (.ireturn, 1) := by decide +kernel
theorem dL_law_753 : decode cL_law 753 = .ok (.aload_n 1, 1) := by decide +kernel
theorem dL_law_754 : decode cL_law 754 = .ok (.invokevirtual 94, 3) := by decide +kernel
theorem dL_law_757 : decode cL_law 757 = .ok (.aload_n 2, 1) := by decide +kernel
theorem dL_law_758 : decode cL_law 758 = .ok (.invokevirtual 97, 3) := by decide +kernel
theorem dL_law_761 : decode cL_law 761 = .ok (.if_icmp .eq 444, 3) := by decide +kernel
theorem dL_law_764 : decode cL_law 764 = .ok (.iconst 0, 1) := by decide +kernel
theorem dL_law_765 : decode cL_law 765 = .ok (.ireturn, 1) := by decide +kernel
theorem dL_law_766 : decode cL_law 766 = .ok (.aload_n 1, 1) := by decide +kernel
theorem dL_law_767 : decode cL_law 767 = .ok (.invokevirtual 98, 3) := by decide +kernel
theorem dL_law_770 : decode cL_law 770 = .ok (.aload_n 2, 1) := by decide +kernel
theorem dL_law_771 : decode cL_law 771 = .ok (.invokevirtual 101, 3) := by decide +kernel
theorem dL_law_774 : decode cL_law 774 = .ok (.if_icmp .eq 431, 3) := by decide +kernel
theorem dL_law_777 : decode cL_law 777 = .ok (.iconst 0, 1) := by decide +kernel
theorem dL_law_778 : decode cL_law 778 = .ok (.ireturn, 1) := by decide +kernel
theorem dL_law_779 : decode cL_law 779 = .ok (.aload_n 1, 1) := by decide +kernel
theorem dL_law_780 : decode cL_law 780 = .ok (.invokevirtual 102, 3) := by decide +kernel
theorem dL_law_783 : decode cL_law 783 = .ok (.aload_n 2, 1) := by decide +kernel
theorem dL_law_784 : decode cL_law 784 = .ok (.invokevirtual 105, 3) := by decide +kernel
theorem dL_law_787 : decode cL_law 787 = .ok (.if_icmp .eq 418, 3) := by decide +kernel
theorem dL_law_790 : decode cL_law 790 = .ok (.iconst 0, 1) := by decide +kernel
theorem dL_law_791 : decode cL_law 791 = .ok (.ireturn, 1) := by decide +kernel
theorem dL_law_792 : decode cL_law 792 = .ok (.aload_n 1, 1) := by decide +kernel
theorem dL_law_793 : decode cL_law 793 = .ok (.aload_n 0, 1) := by decide +kernel
theorem dL_law_794 : decode cL_law 794 = .ok (.iload_n 3, 1) := by decide +kernel
theorem dL_law_795 : decode cL_law 795 = .ok (.iconst 1, 1) := by decide +kernel
theorem dL_law_796 : decode cL_law 796 = .ok (.iadd, 1) := by decide +kernel
theorem dL_law_797 : decode cL_law 797 = .ok (.iaload, 1) := by decide +kernel
theorem dL_law_798 : decode cL_law 798 = .ok (.invokevirtual 106, 3) := by decide +kernel
theorem dL_law_801 : decode cL_law 801 = .ok (.aload_n 2, 1) := by decide +kernel
theorem dL_law_802 : decode cL_law 802 = .ok (.aload_n 0, 1) := by decide +kernel
theorem dL_law_803 : decode cL_law 803 = .ok (.iload_n 3, 1) := by decide +kernel
theorem dL_law_804 : decode cL_law 804 = .ok (.iconst 1, 1) := by decide +kernel
theorem dL_law_805 : decode cL_law 805 = .ok (.iadd, 1) := by decide +kernel
theorem dL_law_806 : decode cL_law 806 = .ok (.iaload, 1) := by decide +kernel
theorem dL_law_807 : decode cL_law 807 = .ok (.invokevirtual 109, 3) := by decide +kernel
theorem dL_law_810 : decode cL_law 810 = .ok (.if_icmp .eq 395, 3) := by decide +kernel
theorem dL_law_813 : decode cL_law 813 = .ok (.iconst 0, 1) := by decide +kernel
theorem dL_law_814 : decode cL_law 814 = .ok (.ireturn, 1) := by decide +kernel
theorem dL_law_815 : decode cL_law 815 = .ok (.aload_n 1, 1) := by decide +kernel
theorem dL_law_816 : decode cL_law 816 = .ok (.aload_n 0, 1) := by decide +kernel
theorem dL_law_817 : decode cL_law 817 = .ok (.iload_n 3, 1) := by decide +kernel
theorem dL_law_818 : decode cL_law 818 = .ok (.iconst 1, 1) := by decide +kernel
theorem dL_law_819 : decode cL_law 819 = .ok (.iadd, 1) := by decide +kernel
theorem dL_law_820 : decode cL_law 820 = .ok (.iaload, 1) := by decide +kernel
theorem dL_law_821 : decode cL_law 821 = .ok (.invokevirtual 110, 3) := by decide +kernel
theorem dL_law_824 : decode cL_law 824 = .ok (.aload_n 2, 1) := by decide +kernel
theorem dL_law_825 : decode cL_law 825 = .ok (.aload_n 0, 1) := by decide +kernel
theorem dL_law_826 : decode cL_law 826 = .ok (.iload_n 3, 1) := by decide +kernel
theorem dL_law_827 : decode cL_law 827 = .ok (.iconst 1, 1) := by decide +kernel
theorem dL_law_828 : decode cL_law 828 = .ok (.iadd, 1) := by decide +kernel
theorem dL_law_829 : decode cL_law 829 = .ok (.iaload, 1) := by decide +kernel
theorem dL_law_830 : decode cL_law 830 = .ok (.invokevirtual 113, 3) := by decide +kernel
theorem dL_law_833 : decode cL_law 833 = .ok (.if_icmp .eq 372, 3) := by decide +kernel
theorem dL_law_836 : decode cL_law 836 = .ok (.iconst 0, 1) := by decide +kernel
theorem dL_law_837 : decode cL_law 837 = .ok (.ireturn, 1) := by decide +kernel
theorem dL_law_838 : decode cL_law 838 = .ok (.aload_n 1, 1) := by decide +kernel
theorem dL_law_839 : decode cL_law 839 = .ok (.invokevirtual 114, 3) := by decide +kernel
theorem dL_law_842 : decode cL_law 842 = .ok (.aload_n 2, 1) := by decide +kernel
theorem dL_law_843 : decode cL_law 843 = .ok (.invokevirtual 117, 3) := by decide +kernel
theorem dL_law_846 : decode cL_law 846 = .ok (.if_icmp .eq 359, 3) := by decide +kernel
theorem dL_law_849 : decode cL_law 849 = .ok (.iconst 0, 1) := by decide +kernel
theorem dL_law_850 : decode cL_law 850 = .ok (.ireturn, 1) := by decide +kernel
theorem dL_law_851 : decode cL_law 851 = .ok (.aload_n 1, 1) := by decide +kernel
theorem dL_law_852 : decode cL_law 852 = .ok (.aload_n 0, 1) := by decide +kernel
theorem dL_law_853 : decode cL_law 853 = .ok (.iload_n 3, 1) := by decide +kernel
theorem dL_law_854 : decode cL_law 854 = .ok (.iconst 1, 1) := by decide +kernel
theorem dL_law_855 : decode cL_law 855 = .ok (.iadd, 1) := by decide +kernel
theorem dL_law_856 : decode cL_law 856 = .ok (.iaload, 1) := by decide +kernel
theorem dL_law_857 : decode cL_law 857 = .ok (.aload_n 0, 1) := by decide +kernel
theorem dL_law_858 : decode cL_law 858 = .ok (.iload_n 3, 1) := by decide +kernel
theorem dL_law_859 : decode cL_law 859 = .ok (.iconst 2, 1) := by decide +kernel
theorem dL_law_860 : decode cL_law 860 = .ok (.iadd, 1) := by decide +kernel
theorem dL_law_861 : decode cL_law 861 = .ok (.iaload, 1) := by decide +kernel
theorem dL_law_862 : decode cL_law 862 = .ok (.invokevirtual 118, 3) := by decide +kernel
theorem dL_law_865 : decode cL_law 865 = .ok (.aload_n 2, 1) := by decide +kernel
theorem dL_law_866 : decode cL_law 866 = .ok (.aload_n 0, 1) := by decide +kernel
theorem dL_law_867 : decode cL_law 867 = .ok (.iload_n 3, 1) := by decide +kernel
theorem dL_law_868 : decode cL_law 868 = .ok (.iconst 1, 1) := by decide +kernel
theorem dL_law_869 : decode cL_law 869 = .ok (.iadd, 1) := by decide +kernel
theorem dL_law_870 : decode cL_law 870 = .ok (.iaload, 1) := by decide +kernel
theorem dL_law_871 : decode cL_law 871 = .ok (.aload_n 0, 1) := by decide +kernel
theorem dL_law_872 : decode cL_law 872 = .ok (.iload_n 3, 1) := by decide +kernel
theorem dL_law_873 : decode cL_law 873 = .ok (.iconst 2, 1) := by decide +kernel
theorem dL_law_874 : decode cL_law 874 = .ok (.iadd, 1) := by decide +kernel
theorem dL_law_875 : decode cL_law 875 = .ok (.iaload, 1) := by decide +kernel
theorem dL_law_876 : decode cL_law 876 = .ok (.invokevirtual 121, 3) := by decide +kernel
theorem dL_law_879 : decode cL_law 879 = .ok (.if_icmp .eq 326, 3) := by decide +kernel
theorem dL_law_882 : decode cL_law 882 = .ok (.iconst 0, 1) := by decide +kernel
theorem dL_law_883 : decode cL_law 883 = .ok (.ireturn, 1) := by decide +kernel
theorem dL_law_884 : decode cL_law 884 = .ok (.aload_n 1, 1) := by decide +kernel
theorem dL_law_885 : decode cL_law 885 = .ok (.aload_n 0, 1) := by decide +kernel
theorem dL_law_886 : decode cL_law 886 = .ok (.iload_n 3, 1) := by decide +kernel
theorem dL_law_887 : decode cL_law 887 = .ok (.iconst 1, 1) := by decide +kernel
theorem dL_law_888 : decode cL_law 888 = .ok (.iadd, 1) := by decide +kernel
theorem dL_law_889 : decode cL_law 889 = .ok (.iaload, 1) := by decide +kernel
theorem dL_law_890 : decode cL_law 890 = .ok (.aload_n 0, 1) := by decide +kernel
theorem dL_law_891 : decode cL_law 891 = .ok (.iload_n 3, 1) := by decide +kernel
theorem dL_law_892 : decode cL_law 892 = .ok (.iconst 2, 1) := by decide +kernel
theorem dL_law_893 : decode cL_law 893 = .ok (.iadd, 1) := by decide +kernel
theorem dL_law_894 : decode cL_law 894 = .ok (.iaload, 1) := by decide +kernel
theorem dL_law_895 : decode cL_law 895 = .ok (.aload_n 0, 1) := by decide +kernel
theorem dL_law_896 : decode cL_law 896 = .ok (.iload_n 3, 1) := by decide +kernel
theorem dL_law_897 : decode cL_law 897 = .ok (.iconst 3, 1) := by decide +kernel
theorem dL_law_898 : decode cL_law 898 = .ok (.iadd, 1) := by decide +kernel
theorem dL_law_899 : decode cL_law 899 = .ok (.iaload, 1) := by decide +kernel
theorem dL_law_900 : decode cL_law 900 = .ok (.aload_n 0, 1) := by decide +kernel
theorem dL_law_901 : decode cL_law 901 = .ok (.iload_n 3, 1) := by decide +kernel
theorem dL_law_902 : decode cL_law 902 = .ok (.iconst 4, 1) := by decide +kernel
theorem dL_law_903 : decode cL_law 903 = .ok (.iadd, 1) := by decide +kernel
theorem dL_law_904 : decode cL_law 904 = .ok (.iaload, 1) := by decide +kernel
theorem dL_law_905 : decode cL_law 905 = .ok (.invokevirtual 122, 3) := by decide +kernel
theorem dL_law_908 : decode cL_law 908 = .ok (.aload_n 2, 1) := by decide +kernel
theorem dL_law_909 : decode cL_law 909 = .ok (.aload_n 0, 1) := by decide +kernel
theorem dL_law_910 : decode cL_law 910 = .ok (.iload_n 3, 1) := by decide +kernel
theorem dL_law_911 : decode cL_law 911 = .ok (.iconst 1, 1) := by decide +kernel
theorem dL_law_912 : decode cL_law 912 = .ok (.iadd, 1) := by decide +kernel
theorem dL_law_913 : decode cL_law 913 = .ok (.iaload, 1) := by decide +kernel
theorem dL_law_914 : decode cL_law 914 = .ok (.aload_n 0, 1) := by decide +kernel
theorem dL_law_915 : decode cL_law 915 = .ok (.iload_n 3, 1) := by decide +kernel
theorem dL_law_916 : decode cL_law 916 = .ok (.iconst 2, 1) := by decide +kernel
theorem dL_law_917 : decode cL_law 917 = .ok (.iadd, 1) := by decide +kernel
theorem dL_law_918 : decode cL_law 918 = .ok (.iaload, 1) := by decide +kernel
theorem dL_law_919 : decode cL_law 919 = .ok (.aload_n 0, 1) := by decide +kernel
theorem dL_law_920 : decode cL_law 920 = .ok (.iload_n 3, 1) := by decide +kernel
theorem dL_law_921 : decode cL_law 921 = .ok (.iconst 3, 1) := by decide +kernel
theorem dL_law_922 : decode cL_law 922 = .ok (.iadd, 1) := by decide +kernel
theorem dL_law_923 : decode cL_law 923 = .ok (.iaload, 1) := by decide +kernel
theorem dL_law_924 : decode cL_law 924 = .ok (.aload_n 0, 1) := by decide +kernel
theorem dL_law_925 : decode cL_law 925 = .ok (.iload_n 3, 1) := by decide +kernel
theorem dL_law_926 : decode cL_law 926 = .ok (.iconst 4, 1) := by decide +kernel
theorem dL_law_927 : decode cL_law 927 = .ok (.iadd, 1) := by decide +kernel
theorem dL_law_928 : decode cL_law 928 = .ok (.iaload, 1) := by decide +kernel
theorem dL_law_929 : decode cL_law 929 = .ok (.invokevirtual 126, 3) := by decide +kernel
theorem dL_law_932 : decode cL_law 932 = .ok (.if_icmp .eq 273, 3) := by decide +kernel
theorem dL_law_935 : decode cL_law 935 = .ok (.iconst 0, 1) := by decide +kernel
theorem dL_law_936 : decode cL_law 936 = .ok (.ireturn, 1) := by decide +kernel
theorem dL_law_937 : decode cL_law 937 = .ok (.aload_n 1, 1) := by decide +kernel
theorem dL_law_938 : decode cL_law 938 = .ok (.aload_n 0, 1) := by decide +kernel
theorem dL_law_939 : decode cL_law 939 = .ok (.iload_n 3, 1) := by decide +kernel
theorem dL_law_940 : decode cL_law 940 = .ok (.iconst 1, 1) := by decide +kernel
theorem dL_law_941 : decode cL_law 941 = .ok (.iadd, 1) := by decide +kernel
theorem dL_law_942 : decode cL_law 942 = .ok (.iaload, 1) := by decide +kernel
theorem dL_law_943 : decode cL_law 943 = .ok (.aload_n 0, 1) := by decide +kernel
theorem dL_law_944 : decode cL_law 944 = .ok (.iload_n 3, 1) := by decide +kernel
theorem dL_law_945 : decode cL_law 945 = .ok (.iconst 2, 1) := by decide +kernel
theorem dL_law_946 : decode cL_law 946 = .ok (.iadd, 1) := by decide +kernel
theorem dL_law_947 : decode cL_law 947 = .ok (.iaload, 1) := by decide +kernel
theorem dL_law_948 : decode cL_law 948 = .ok (.aload_n 0, 1) := by decide +kernel
theorem dL_law_949 : decode cL_law 949 = .ok (.iload_n 3, 1) := by decide +kernel
theorem dL_law_950 : decode cL_law 950 = .ok (.iconst 3, 1) := by decide +kernel
theorem dL_law_951 : decode cL_law 951 = .ok (.iadd, 1) := by decide +kernel
theorem dL_law_952 : decode cL_law 952 = .ok (.iaload, 1) := by decide +kernel
theorem dL_law_953 : decode cL_law 953 = .ok (.invokevirtual 127, 3) := by decide +kernel
theorem dL_law_956 : decode cL_law 956 = .ok (.aload_n 2, 1) := by decide +kernel
theorem dL_law_957 : decode cL_law 957 = .ok (.aload_n 0, 1) := by decide +kernel
theorem dL_law_958 : decode cL_law 958 = .ok (.iload_n 3, 1) := by decide +kernel
theorem dL_law_959 : decode cL_law 959 = .ok (.iconst 1, 1) := by decide +kernel
theorem dL_law_960 : decode cL_law 960 = .ok (.iadd, 1) := by decide +kernel
theorem dL_law_961 : decode cL_law 961 = .ok (.iaload, 1) := by decide +kernel
theorem dL_law_962 : decode cL_law 962 = .ok (.aload_n 0, 1) := by decide +kernel
theorem dL_law_963 : decode cL_law 963 = .ok (.iload_n 3, 1) := by decide +kernel
theorem dL_law_964 : decode cL_law 964 = .ok (.iconst 2, 1) := by decide +kernel
theorem dL_law_965 : decode cL_law 965 = .ok (.iadd, 1) := by decide +kernel
theorem dL_law_966 : decode cL_law 966 = .ok (.iaload, 1) := by decide +kernel
theorem dL_law_967 : decode cL_law 967 = .ok (.aload_n 0, 1) := by decide +kernel
theorem dL_law_968 : decode cL_law 968 = .ok (.iload_n 3, 1) := by decide +kernel
theorem dL_law_969 : decode cL_law 969 = .ok (.iconst 3, 1) := by decide +kernel
theorem dL_law_970 : decode cL_law 970 = .ok (.iadd, 1) := by decide +kernel
theorem dL_law_971 : decode cL_law 971 = .ok (.iaload, 1) := by decide +kernel
theorem dL_law_972 : decode cL_law 972 = .ok (.invokevirtual 130, 3) := by decide +kernel
theorem dL_law_975 : decode cL_law 975 = .ok (.if_icmp .eq 230, 3) := by decide +kernel
theorem dL_law_978 : decode cL_law 978 = .ok (.iconst 0, 1) := by decide +kernel
theorem dL_law_979 : decode cL_law 979 = .ok (.ireturn, 1) := by decide +kernel
theorem dL_law_980 : decode cL_law 980 = .ok (.aload_n 1, 1) := by decide +kernel
theorem dL_law_981 : decode cL_law 981 = .ok (.aload_n 0, 1) := by decide +kernel
theorem dL_law_982 : decode cL_law 982 = .ok (.iload_n 3, 1) := by decide +kernel
theorem dL_law_983 : decode cL_law 983 = .ok (.iconst 1, 1) := by decide +kernel
theorem dL_law_984 : decode cL_law 984 = .ok (.iadd, 1) := by decide +kernel
theorem dL_law_985 : decode cL_law 985 = .ok (.iaload, 1) := by decide +kernel
theorem dL_law_986 : decode cL_law 986 = .ok (.invokevirtual 131, 3) := by decide +kernel
theorem dL_law_989 : decode cL_law 989 = .ok (.aload_n 2, 1) := by decide +kernel
theorem dL_law_990 : decode cL_law 990 = .ok (.aload_n 0, 1) := by decide +kernel
theorem dL_law_991 : decode cL_law 991 = .ok (.iload_n 3, 1) := by decide +kernel
theorem dL_law_992 : decode cL_law 992 = .ok (.iconst 1, 1) := by decide +kernel
theorem dL_law_993 : decode cL_law 993 = .ok (.iadd, 1) := by decide +kernel
theorem dL_law_994 : decode cL_law 994 = .ok (.iaload, 1) := by decide +kernel
theorem dL_law_995 : decode cL_law 995 = .ok (.invokevirtual 134, 3) := by decide +kernel
theorem dL_law_998 : decode cL_law 998 = .ok (.if_icmp .eq 207, 3) := by decide +kernel
theorem dL_law_1001 : decode cL_law 1001 = .ok (.iconst 0, 1) := by decide +kernel
theorem dL_law_1002 : decode cL_law 1002 = .ok (.ireturn, 1) := by decide +kernel
theorem dL_law_1003 : decode cL_law 1003 = .ok (.aload_n 1, 1) := by decide +kernel
theorem dL_law_1004 : decode cL_law 1004 = .ok (.invokevirtual 135, 3) := by decide +kernel
theorem dL_law_1007 : decode cL_law 1007 = .ok (.aload_n 2, 1) := by decide +kernel
theorem dL_law_1008 : decode cL_law 1008 = .ok (.invokevirtual 138, 3) := by decide +kernel
theorem dL_law_1011 : decode cL_law 1011 = .ok (.if_icmp .eq 194, 3) := by decide +kernel
theorem dL_law_1014 : decode cL_law 1014 = .ok (.iconst 0, 1) := by decide +kernel
theorem dL_law_1015 : decode cL_law 1015 = .ok (.ireturn, 1) := by decide +kernel
theorem dL_law_1016 : decode cL_law 1016 = .ok (.aload_n 1, 1) := by decide +kernel
theorem dL_law_1017 : decode cL_law 1017 = .ok (.aload_n 0, 1) := by decide +kernel
theorem dL_law_1018 : decode cL_law 1018 = .ok (.iload_n 3, 1) := by decide +kernel
theorem dL_law_1019 : decode cL_law 1019 = .ok (.iconst 1, 1) := by decide +kernel
theorem dL_law_1020 : decode cL_law 1020 = .ok (.iadd, 1) := by decide +kernel
theorem dL_law_1021 : decode cL_law 1021 = .ok (.iaload, 1) := by decide +kernel
theorem dL_law_1022 : decode cL_law 1022 = .ok (.aload_n 0, 1) := by decide +kernel
theorem dL_law_1023 : decode cL_law 1023 = .ok (.iload_n 3, 1) := by decide +kernel
theorem dL_law_1024 : decode cL_law 1024 = .ok (.iconst 2, 1) := by decide +kernel
theorem dL_law_1025 : decode cL_law 1025 = .ok (.iadd, 1) := by decide +kernel
theorem dL_law_1026 : decode cL_law 1026 = .ok (.iaload, 1) := by decide +kernel
theorem dL_law_1027 : decode cL_law 1027 = .ok (.invokevirtual 139, 3) := by decide +kernel
theorem dL_law_1030 : decode cL_law 1030 = .ok (.aload_n 2, 1) := by decide +kernel
theorem dL_law_1031 : decode cL_law 1031 = .ok (.aload_n 0, 1) := by decide +kernel
theorem dL_law_1032 : decode cL_law 1032 = .ok (.iload_n 3, 1) := by decide +kernel
theorem dL_law_1033 : decode cL_law 1033 = .ok (.iconst 1, 1) := by decide +kernel
theorem dL_law_1034 : decode cL_law 1034 = .ok (.iadd, 1) := by decide +kernel
theorem dL_law_1035 : decode cL_law 1035 = .ok (.iaload, 1) := by decide +kernel
theorem dL_law_1036 : decode cL_law 1036 = .ok (.aload_n 0, 1) := by decide +kernel
theorem dL_law_1037 : decode cL_law 1037 = .ok (.iload_n 3, 1) := by decide +kernel
theorem dL_law_1038 : decode cL_law 1038 = .ok (.iconst 2, 1) := by decide +kernel
theorem dL_law_1039 : decode cL_law 1039 = .ok (.iadd, 1) := by decide +kernel
theorem dL_law_1040 : decode cL_law 1040 = .ok (.iaload, 1) := by decide +kernel
theorem dL_law_1041 : decode cL_law 1041 = .ok (.invokevirtual 142, 3) := by decide +kernel
theorem dL_law_1044 : decode cL_law 1044 = .ok (.if_icmp .eq 161, 3) := by decide +kernel
theorem dL_law_1047 : decode cL_law 1047 = .ok (.iconst 0, 1) := by decide +kernel
theorem dL_law_1048 : decode cL_law 1048 = .ok (.ireturn, 1) := by decide +kernel
theorem dL_law_1049 : decode cL_law 1049 = .ok (.aload_n 1, 1) := by decide +kernel
theorem dL_law_1050 : decode cL_law 1050 = .ok (.invokevirtual 143, 3) := by decide +kernel
theorem dL_law_1053 : decode cL_law 1053 = .ok (.f2d, 1) := by decide +kernel
theorem dL_law_1054 : decode cL_law 1054 = .ok (.dstore 4, 2) := by decide +kernel
theorem dL_law_1056 : decode cL_law 1056 = .ok (.aload_n 2, 1) := by decide +kernel
theorem dL_law_1057 : decode cL_law 1057 = .ok (.invokevirtual 147, 3) := by decide +kernel
theorem dL_law_1060 : decode cL_law 1060 = .ok (.f2d, 1) := by decide +kernel
theorem dL_law_1061 : decode cL_law 1061 = .ok (.dstore 6, 2) := by decide +kernel
theorem dL_law_1063 : decode cL_law 1063 = .ok (.dload 4, 2) := by decide +kernel
theorem dL_law_1065 : decode cL_law 1065 = .ok (.dload 6, 2) := by decide +kernel
theorem dL_law_1067 : decode cL_law 1067 = .ok (.dcmp .l, 1) := by decide +kernel
theorem dL_law_1068 : decode cL_law 1068 = .ok (.ifCond .eq 21, 3) := by decide +kernel
theorem dL_law_1071 : decode cL_law 1071 = .ok (.dload 4, 2) := by decide +kernel
theorem dL_law_1073 : decode cL_law 1073 = .ok (.dload 4, 2) := by decide +kernel
theorem dL_law_1075 : decode cL_law 1075 = .ok (.dcmp .l, 1) := by decide +kernel
theorem dL_law_1076 : decode cL_law 1076 = .ok (.ifCond .eq 11, 3) := by decide +kernel
theorem dL_law_1079 : decode cL_law 1079 = .ok (.dload 6, 2) := by decide +kernel
theorem dL_law_1081 : decode cL_law 1081 = .ok (.dload 6, 2) := by decide +kernel
theorem dL_law_1083 : decode cL_law 1083 = .ok (.dcmp .l, 1) := by decide +kernel
theorem dL_law_1084 : decode cL_law 1084 = .ok (.ifCond .ne 5, 3) := by decide +kernel
theorem dL_law_1087 : decode cL_law 1087 = .ok (.iconst 0, 1) := by decide +kernel
theorem dL_law_1088 : decode cL_law 1088 = .ok (.ireturn, 1) := by decide +kernel
theorem dL_law_1089 : decode cL_law 1089 = .ok (.goto 116, 3) := by decide +kernel
theorem dL_law_1092 : decode cL_law 1092 = .ok (.aload_n 1, 1) := by decide +kernel
theorem dL_law_1093 : decode cL_law 1093 = .ok (.invokevirtual 148, 3) := by decide +kernel
theorem dL_law_1096 : decode cL_law 1096 = .ok (.dstore 4, 2) := by decide +kernel
theorem dL_law_1098 : decode cL_law 1098 = .ok (.aload_n 2, 1) := by decide +kernel
theorem dL_law_1099 : decode cL_law 1099 = .ok (.invokevirtual 152, 3) := by decide +kernel
theorem dL_law_1102 : decode cL_law 1102 = .ok (.dstore 6, 2) := by decide +kernel
theorem dL_law_1104 : decode cL_law 1104 = .ok (.dload 4, 2) := by decide +kernel
theorem dL_law_1106 : decode cL_law 1106 = .ok (.dload 6, 2) := by decide +kernel
theorem dL_law_1108 : decode cL_law 1108 = .ok (.dcmp .l, 1) := by decide +kernel
theorem dL_law_1109 : decode cL_law 1109 = .ok (.ifCond .eq 21, 3) := by decide +kernel
theorem dL_law_1112 : decode cL_law 1112 = .ok (.dload 4, 2) := by decide +kernel
theorem dL_law_1114 : decode cL_law 1114 = .ok (.dload 4, 2) := by decide +kernel
theorem dL_law_1116 : decode cL_law 1116 = .ok (.dcmp .l, 1) := by decide +kernel
theorem dL_law_1117 : decode cL_law 1117 = .ok (.ifCond .eq 11, 3) := by decide +kernel
theorem dL_law_1120 : decode cL_law 1120 = .ok (.dload 6, 2) := by decide +kernel
theorem dL_law_1122 : decode cL_law 1122 = .ok (.dload 6, 2) := by decide +kernel
theorem dL_law_1124 : decode cL_law 1124 = .ok (.dcmp .l, 1) := by decide +kernel
theorem dL_law_1125 : decode cL_law 1125 = .ok (.ifCond .ne 5, 3) := by decide +kernel
theorem dL_law_1128 : decode cL_law 1128 = .ok (.iconst 0, 1) := by decide +kernel
theorem dL_law_1129 : decode cL_law 1129 = .ok (.ireturn, 1) := by decide +kernel
theorem dL_law_1130 : decode cL_law 1130 = .ok (.goto 75, 3) := by decide +kernel
theorem dL_law_1133 : decode cL_law 1133 = .ok (.aload_n 1, 1) := by decide +kernel
theorem dL_law_1134 : decode cL_law 1134 = .ok (.invokevirtual 153, 3) := by decide +kernel
theorem dL_law_1137 : decode cL_law 1137 = .ok (.aload_n 2, 1) := by decide +kernel
theorem dL_law_1138 : decode cL_law 1138 = .ok (.invokevirtual 156, 3) := by decide +kernel
theorem dL_law_1141 : decode cL_law 1141 = .ok (.if_icmp .eq 64, 3) := by decide +kernel
theorem dL_law_1144 : decode cL_law 1144 = .ok (.iconst 0, 1) := by decide +kernel
theorem dL_law_1145 : decode cL_law 1145 = .ok (.ireturn, 1) := by decide +kernel
theorem dL_law_1146 : decode cL_law 1146 = .ok (.aload_n 1, 1) := by decide +kernel
theorem dL_law_1147 : decode cL_law 1147 = .ok (.aload_n 0, 1) := by decide +kernel
theorem dL_law_1148 : decode cL_law 1148 = .ok (.iload_n 3, 1) := by decide +kernel
theorem dL_law_1149 : decode cL_law 1149 = .ok (.iconst 1, 1) := by decide +kernel
theorem dL_law_1150 : decode cL_law 1150 = .ok (.iadd, 1) := by decide +kernel
theorem dL_law_1151 : decode cL_law 1151 = .ok (.iaload, 1) := by decide +kernel
theorem dL_law_1152 : decode cL_law 1152 = .ok (.invokevirtual 157, 3) := by decide +kernel
theorem dL_law_1155 : decode cL_law 1155 = .ok (.aload_n 2, 1) := by decide +kernel
theorem dL_law_1156 : decode cL_law 1156 = .ok (.aload_n 0, 1) := by decide +kernel
theorem dL_law_1157 : decode cL_law 1157 = .ok (.iload_n 3, 1) := by decide +kernel
theorem dL_law_1158 : decode cL_law 1158 = .ok (.iconst 1, 1) := by decide +kernel
theorem dL_law_1159 : decode cL_law 1159 = .ok (.iadd, 1) := by decide +kernel
theorem dL_law_1160 : decode cL_law 1160 = .ok (.iaload, 1) := by decide +kernel
theorem dL_law_1161 : decode cL_law 1161 = .ok (.invokevirtual 160, 3) := by decide +kernel
theorem dL_law_1164 : decode cL_law 1164 = .ok (.if_icmp .eq 41, 3) := by decide +kernel
theorem dL_law_1167 : decode cL_law 1167 = .ok (.iconst 0, 1) := by decide +kernel
theorem dL_law_1168 : decode cL_law 1168 = .ok (.ireturn, 1) := by decide +kernel
theorem dL_law_1169 : decode cL_law 1169 = .ok (.aload_n 1, 1) := by decide +kernel
theorem dL_law_1170 : decode cL_law 1170 = .ok (.invokevirtual 161, 3) := by decide +kernel
theorem dL_law_1173 : decode cL_law 1173 = .ok (.aload_n 2, 1) := by decide +kernel
theorem dL_law_1174 : decode cL_law 1174 = .ok (.invokevirtual 164, 3) := by decide +kernel
theorem dL_law_1177 : decode cL_law 1177 = .ok (.if_icmp .eq 28, 3) := by decide +kernel
theorem dL_law_1180 : decode cL_law 1180 = .ok (.iconst 0, 1) := by decide +kernel
theorem dL_law_1181 : decode cL_law 1181 = .ok (.ireturn, 1) := by decide +kernel
theorem dL_law_1182 : decode cL_law 1182 = .ok (.aload_n 1, 1) := by decide +kernel
theorem dL_law_1183 : decode cL_law 1183 = .ok (.aload_n 0, 1) := by decide +kernel
theorem dL_law_1184 : decode cL_law 1184 = .ok (.iload_n 3, 1) := by decide +kernel
theorem dL_law_1185 : decode cL_law 1185 = .ok (.iconst 1, 1) := by decide +kernel
theorem dL_law_1186 : decode cL_law 1186 = .ok (.iadd, 1) := by decide +kernel
theorem dL_law_1187 : decode cL_law 1187 = .ok (.iaload, 1) := by decide +kernel
theorem dL_law_1188 : decode cL_law 1188 = .ok (.invokevirtual 165, 3) := by decide +kernel
theorem dL_law_1191 : decode cL_law 1191 = .ok (.aload_n 2, 1) := by decide +kernel
theorem dL_law_1192 : decode cL_law 1192 = .ok (.aload_n 0, 1) := by decide +kernel
theorem dL_law_1193 : decode cL_law 1193 = .ok (.iload_n 3, 1) := by decide +kernel
theorem dL_law_1194 : decode cL_law 1194 = .ok (.iconst 1, 1) := by decide +kernel
theorem dL_law_1195 : decode cL_law 1195 = .ok (.iadd, 1) := by decide +kernel
theorem dL_law_1196 : decode cL_law 1196 = .ok (.iaload, 1) := by decide +kernel
theorem dL_law_1197 : decode cL_law 1197 = .ok (.invokevirtual 168, 3) := by decide +kernel
theorem dL_law_1200 : decode cL_law 1200 = .ok (.if_icmp .eq 5, 3) := by decide +kernel
theorem dL_law_1203 : decode cL_law 1203 = .ok (.iconst 0, 1) := by decide +kernel
theorem dL_law_1204 : decode cL_law 1204 = .ok (.ireturn, 1) := by decide +kernel
theorem dL_law_1205 : decode cL_law 1205 = .ok (.iinc 3 6, 3) := by decide +kernel
theorem dL_law_1208 : decode cL_law 1208 = .ok (.goto (-1190), 3) := by decide +kernel
theorem dL_law_1211 : decode cL_law 1211 = .ok (.iconst 1, 1) := by decide +kernel
theorem dL_law_1212 : decode cL_law 1212 = .ok (.ireturn, 1) := by decide +kernel
