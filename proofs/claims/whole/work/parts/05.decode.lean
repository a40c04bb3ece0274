/-! what each instruction of the program is (printed by program) -/
theorem dX9_laysSets_117 : decode cX9_laysSets 117 = .ok (.aload_n 0, 1) := by decide +kernel
theorem dX9_laysSets_118 : decode cX9_laysSets 118 = .ok (.getfield 81, 3) := by decide +kernel
theorem dX9_laysSets_121 : decode cX9_laysSets 121 = .ok (.iload_n 1, 1) := by decide +kernel
theorem dX9_laysSets_122 : decode cX9_laysSets 122 = .ok (.iaload, 1) := by decide +kernel
theorem dX9_laysSets_123 : decode cX9_laysSets 123 = .ok (.iastore, 1) := by decide +kernel
theorem dX9_laysSets_124 : decode cX9_laysSets 124 = .ok (.iinc 1 1, 3) := by decide +kernel
theorem dX9_laysSets_127 : decode cX9_laysSets 127 = .ok (.goto (-125), 3) := by decide +kernel
theorem dX9_laysSets_130 : decode cX9_laysSets 130 = .ok (.iconst 0, 1) := by decide +kernel
theorem dX9_laysSets_131 : decode cX9_laysSets 131 = .ok (.istore_n 1, 1) := by decide +kernel
theorem dX9_laysSets_132 : decode cX9_laysSets 132 = .ok (.iload_n 1, 1) := by decide +kernel
theorem dX9_laysSets_133 : decode cX9_laysSets 133 = .ok (.bipush 12, 2) := by decide +kernel
theorem dX9_laysSets_135 : decode cX9_laysSets 135 = .ok (.if_icmp .ge 70, 3) := by decide +kernel
theorem dX9_laysSets_138 : decode cX9_laysSets 138 = .ok (.iconst 0, 1) := by decide +kernel
theorem dX9_laysSets_139 : decode cX9_laysSets 139 = .ok (.istore_n 2, 1) := by decide +kernel
theorem dX9_laysSets_140 : decode cX9_laysSets 140 = .ok (.iload_n 2, 1) := by decide +kernel
theorem dX9_laysSets_141 : decode cX9_laysSets 141 = .ok (.bipush 12, 2) := by decide +kernel
theorem dX9_laysSets_143 : decode cX9_laysSets 143 = .ok (.if_icmp .ge 56, 3) := by decide +kernel
theorem dX9_laysSets_146 : decode cX9_laysSets 146 = .ok (.iconst 0, 1) := by decide +kernel
theorem dX9_laysSets_147 : decode cX9_laysSets 147 = .ok (.istore_n 3, 1) := by decide +kernel
theorem dX9_laysSets_148 : decode cX9_laysSets 148 = .ok (.iload_n 3, 1) := by decide +kernel
theorem dX9_laysSets_149 : decode cX9_laysSets 149 = .ok (.bipush 12, 2) := by decide +kernel
theorem dX9_laysSets_151 : decode cX9_laysSets 151 = .ok (.if_icmp .ge 42, 3) := by decide +kernel
theorem dX9_laysSets_154 : decode cX9_laysSets 154 = .ok (.aload_n 0, 1) := by decide +kernel
theorem dX9_laysSets_155 : decode cX9_laysSets 155 = .ok (.getfield 84, 3) := by decide +kernel
theorem dX9_laysSets_158 : decode cX9_laysSets 158 = .ok (.iload_n 2, 1) := by decide +kernel
theorem dX9_laysSets_159 : decode cX9_laysSets 159 = .ok (.dup2, 1) := by decide +kernel
theorem dX9_laysSets_160 : decode cX9_laysSets 160 = .ok (.iaload, 1) := by decide +kernel
theorem dX9_laysSets_161 : decode cX9_laysSets 161 = .ok (.aload_n 0, 1) := by decide +kernel
theorem dX9_laysSets_162 : decode cX9_laysSets 162 = .ok (.getfield 84, 3) := by decide +kernel
theorem dX9_laysSets_165 : decode cX9_laysSets 165 = .ok (.iload_n 2, 1) := by decide +kernel
theorem dX9_laysSets_166 : decode cX9_laysSets 166 = .ok (.iaload, 1) := by decide +kernel
theorem dX9_laysSets_167 : decode cX9_laysSets 167 = .ok (.iload_n 3, 1) := by decide +kernel
theorem dX9_laysSets_168 : decode cX9_laysSets 168 = .ok (.ishr, 1) := by decide +kernel
theorem dX9_laysSets_169 : decode cX9_laysSets 169 = .ok (.iconst 1, 1) := by decide +kernel
theorem dX9_laysSets_170 : decode cX9_laysSets 170 = .ok (.iand, 1) := by decide +kernel
theorem dX9_laysSets_171 : decode cX9_laysSets 171 = .ok (.iconst 1, 1) := by decide +kernel
theorem dX9_laysSets_172 : decode cX9_laysSets 172 = .ok (.if_icmp .ne 12, 3) := by decide +kernel
theorem dX9_laysSets_175 : decode cX9_laysSets 175 = .ok (.aload_n 0, 1) := by decide +kernel
theorem dX9_laysSets_176 : decode cX9_laysSets 176 = .ok (.getfield 84, 3) := by decide +kernel
theorem dX9_laysSets_179 : decode cX9_laysSets 179 = .ok (.iload_n 3, 1) := by decide +kernel
theorem dX9_laysSets_180 : decode cX9_laysSets 180 = .ok (.iaload, 1) := by decide +kernel
theorem dX9_laysSets_181 : decode cX9_laysSets 181 = .ok (.goto 4, 3) := by decide +kernel
theorem dX9_laysSets_184 : decode cX9_laysSets 184 = .ok (.iconst 0, 1) := by decide +kernel
theorem dX9_laysSets_185 : decode cX9_laysSets 185 = .ok (.ior, 1) := by decide +kernel
theorem dX9_laysSets_186 : decode cX9_laysSets 186 = .ok (.iastore, 1) := by decide +kernel
theorem dX9_laysSets_187 : decode cX9_laysSets 187 = .ok (.iinc 3 1, 3) := by decide +kernel
theorem dX9_laysSets_190 : decode cX9_laysSets 190 = .ok (.goto (-42), 3) := by decide +kernel
theorem dX9_laysSets_193 : decode cX9_laysSets 193 = .ok (.iinc 2 1, 3) := by decide +kernel
theorem dX9_laysSets_196 : decode cX9_laysSets 196 = .ok (.goto (-56), 3) := by decide +kernel
theorem dX9_laysSets_199 : decode cX9_laysSets 199 = .ok (.iinc 1 1, 3) := by decide +kernel
theorem dX9_laysSets_202 : decode cX9_laysSets 202 = .ok (.goto (-70), 3) := by decide +kernel
theorem dX9_laysSets_205 : decode cX9_laysSets 205 = .ok (.return_, 1) := by decide +kernel
theorem dX9_ofTrigger_0 : decode cX9_ofTrigger 0 = .ok (.aload_n 0, 1) := by decide +kernel
theorem dX9_ofTrigger_1 : decode cX9_ofTrigger 1 = .ok (.iconst 0, 1) := by decide +kernel
theorem dX9_ofTrigger_2 : decode cX9_ofTrigger 2 = .ok (.putfield 90, 3) := by decide +kernel
theorem dX9_ofTrigger_5 : decode cX9_ofTrigger 5 = .ok (.aload_n 0, 1) := by decide +kernel
theorem dX9_ofTrigger_6 : decode cX9_ofTrigger 6 = .ok (.iload_n 1, 1) := by decide +kernel
theorem dX9_ofTrigger_7 : decode cX9_ofTrigger 7 = .ok (.invokevirtual 208, 3) := by decide +kernel
theorem dX9_ofTrigger_10 : decode cX9_ofTrigger 10 = .ok (.ifCond .ne 5, 3) := by decide +kernel
theorem dX9_ofTrigger_13 : decode cX9_ofTrigger 13 = .ok (.iconst (-1), 1) := by decide +kernel
theorem dX9_ofTrigger_14 : decode cX9_ofTrigger 14 = .ok (.ireturn, 1) := by decide +kernel
theorem dX9_ofTrigger_15 : decode cX9_ofTrigger 15 = .ok (.iload_n 2, 1) := by decide +kernel
theorem dX9_ofTrigger_16 : decode cX9_ofTrigger 16 = .ok (.iconst 0, 1) := by decide +kernel
theorem dX9_ofTrigger_17 : decode cX9_ofTrigger 17 = .ok (.bipush 9, 2) := by decide +kernel
theorem dX9_ofTrigger_19 : decode cX9_ofTrigger 19 = .ok (.invokestatic 93, 3) := by decide +kernel
theorem dX9_ofTrigger_22 : decode cX9_ofTrigger 22 = .ok (.ifCond .ne 6, 3) := by decide +kernel
theorem dX9_ofTrigger_25 : decode cX9_ofTrigger 25 = .ok (.bipush (-2), 2) := by decide +kernel
theorem dX9_ofTrigger_27 : decode cX9_ofTrigger 27 = .ok (.ireturn, 1) := by decide +kernel
theorem dX9_ofTrigger_28 : decode cX9_ofTrigger 28 = .ok (.iload_n 2, 1) := by decide +kernel
theorem dX9_ofTrigger_29 : decode cX9_ofTrigger 29 = .ok (.bipush 8, 2) := by decide +kernel
theorem dX9_ofTrigger_31 : decode cX9_ofTrigger 31 = .ok (.if_icmp .ge 10, 3) := by decide +kernel
theorem dX9_ofTrigger_34 : decode cX9_ofTrigger 34 = .ok (.aload_n 0, 1) := by decide +kernel
theorem dX9_ofTrigger_35 : decode cX9_ofTrigger 35 = .ok (.iload_n 1, 1) := by decide +kernel
theorem dX9_ofTrigger_36 : decode cX9_ofTrigger 36 = .ok (.iload_n 2, 1) := by decide +kernel
theorem dX9_ofTrigger_37 : decode cX9_ofTrigger 37 = .ok (.invokevirtual 146, 3) := by decide +kernel
theorem dX9_ofTrigger_40 : decode cX9_ofTrigger 40 = .ok (.ireturn, 1) := by decide +kernel
theorem dX9_ofTrigger_41 : decode cX9_ofTrigger 41 = .ok (.aload_n 0, 1) := by decide +kernel
theorem dX9_ofTrigger_42 : decode cX9_ofTrigger 42 = .ok (.invokevirtual 221, 3) := by decide +kernel
theorem dX9_ofTrigger_45 : decode cX9_ofTrigger 45 = .ok (.iload_n 2, 1) := by decide +kernel
theorem dX9_ofTrigger_46 : decode cX9_ofTrigger 46 = .ok (.bipush 8, 2) := by decide +kernel
theorem dX9_ofTrigger_48 : decode cX9_ofTrigger 48 = .ok (.if_icmp .ne 12, 3) := by decide +kernel
theorem dX9_ofTrigger_51 : decode cX9_ofTrigger 51 = .ok (.aload_n 0, 1) := by decide +kernel
theorem dX9_ofTrigger_52 : decode cX9_ofTrigger 52 = .ok (.getfield 81, 3) := by decide +kernel
theorem dX9_ofTrigger_55 : decode cX9_ofTrigger 55 = .ok (.iload_n 1, 1) := by decide +kernel
theorem dX9_ofTrigger_56 : decode cX9_ofTrigger 56 = .ok (.iaload, 1) := by decide +kernel
theorem dX9_ofTrigger_57 : decode cX9_ofTrigger 57 = .ok (.goto 13, 3) := by decide +kernel
theorem dX9_ofTrigger_60 : decode cX9_ofTrigger 60 = .ok (.aload_n 0, 1) := by decide +kernel
theorem dX9_ofTrigger_61 : decode cX9_ofTrigger 61 = .ok (.getfield 84, 3) := by decide +kernel
theorem dX9_ofTrigger_64 : decode cX9_ofTrigger 64 = .ok (.iload_n 1, 1) := by decide +kernel
theorem dX9_ofTrigger_65 : decode cX9_ofTrigger 65 = .ok (.iaload, 1) := by decide +kernel
theorem dX9_ofTrigger_66 : decode cX9_ofTrigger 66 = .ok (.iload_n 1, 1) := by decide +kernel
theorem dX9_ofTrigger_67 : decode cX9_ofTrigger 67 = .ok (.ishr, 1) := by decide +kernel
theorem dX9_ofTrigger_68 : decode cX9_ofTrigger 68 = .ok (.iconst 1, 1) := by decide +kernel
theorem dX9_ofTrigger_69 : decode cX9_ofTrigger 69 = .ok (.iand, 1) := by decide +kernel
theorem dX9_ofTrigger_70 : decode cX9_ofTrigger 70 = .ok (.ireturn, 1) := by decide +kernel
theorem dX9_journal_0 : decode cX9_journal 0 = .ok (.aload_n 0, 1) := by decide +kernel
theorem dX9_journal_1 : decode cX9_journal 1 = .ok (.iconst 0, 1) := by decide +kernel
theorem dX9_journal_2 : decode cX9_journal 2 = .ok (.putfield 90, 3) := by decide +kernel
theorem dX9_journal_5 : decode cX9_journal 5 = .ok (.iload_n 1, 1) := by decide +kernel
theorem dX9_journal_6 : decode cX9_journal 6 = .ok (.iconst 0, 1) := by decide +kernel
theorem dX9_journal_7 : decode cX9_journal 7 = .ok (.aload_n 0, 1) := by decide +kernel
theorem dX9_journal_8 : decode cX9_journal 8 = .ok (.getfield 7, 3) := by decide +kernel
theorem dX9_journal_11 : decode cX9_journal 11 = .ok (.sipush 199, 3) := by decide +kernel
theorem dX9_journal_14 : decode cX9_journal 14 = .ok (.iaload, 1) := by decide +kernel
theorem dX9_journal_15 : decode cX9_journal 15 = .ok (.iconst 1, 1) := by decide +kernel
theorem dX9_journal_16 : decode cX9_journal 16 = .ok (.isub, 1) := by decide +kernel
theorem dX9_journal_17 : decode cX9_journal 17 = .ok (.invokestatic 93, 3) := by decide +kernel
theorem dX9_journal_20 : decode cX9_journal 20 = .ok (.ifCond .ne 5, 3) := by decide +kernel
theorem dX9_journal_23 : decode cX9_journal 23 = .ok (.iconst (-1), 1) := by decide +kernel
theorem dX9_journal_24 : decode cX9_journal 24 = .ok (.ireturn, 1) := by decide +kernel
theorem dX9_journal_25 : decode cX9_journal 25 = .ok (.iload_n 2, 1) := by decide +kernel
theorem dX9_journal_26 : decode cX9_journal 26 = .ok (.iconst 0, 1) := by decide +kernel
theorem dX9_journal_27 : decode cX9_journal 27 = .ok (.iconst 5, 1) := by decide +kernel
theorem dX9_journal_28 : decode cX9_journal 28 = .ok (.invokestatic 93, 3) := by decide +kernel
theorem dX9_journal_31 : decode cX9_journal 31 = .ok (.ifCond .eq 21, 3) := by decide +kernel
theorem dX9_journal_34 : decode cX9_journal 34 = .ok (.aload_n 0, 1) := by decide +kernel
theorem dX9_journal_35 : decode cX9_journal 35 = .ok (.getfield 7, 3) := by decide +kernel
theorem dX9_journal_38 : decode cX9_journal 38 = .ok (.sipush 200, 3) := by decide +kernel
theorem dX9_journal_41 : decode cX9_journal 41 = .ok (.bipush 6, 2) := by decide +kernel
theorem dX9_journal_43 : decode cX9_journal 43 = .ok (.iload_n 1, 1) := by decide +kernel
theorem dX9_journal_44 : decode cX9_journal 44 = .ok (.imul, 1) := by decide +kernel
theorem dX9_journal_45 : decode cX9_journal 45 = .ok (.iadd, 1) := by decide +kernel
theorem dX9_journal_46 : decode cX9_journal 46 = .ok (.iload_n 2, 1) := by decide +kernel
theorem dX9_journal_47 : decode cX9_journal 47 = .ok (.iadd, 1) := by decide +kernel
theorem dX9_journal_48 : decode cX9_journal 48 = .ok (.iaload, 1) := by decide +kernel
theorem dX9_journal_49 : decode cX9_journal 49 = .ok (.goto 5, 3) := by decide +kernel
theorem dX9_journal_52 : decode cX9_journal 52 = .ok (.bipush (-2), 2) := by decide +kernel
theorem dX9_journal_54 : decode cX9_journal 54 = .ok (.ireturn, 1) := by decide +kernel
theorem dX9_sumOfNumbers_0 : decode cX9_sumOfNumbers 0 = .ok (.iconst 0, 1) := by decide +kernel
theorem dX9_sumOfNumbers_1 : decode cX9_sumOfNumbers 1 = .ok (.istore_n 1, 1) := by decide +kernel
theorem dX9_sumOfNumbers_2 : decode cX9_sumOfNumbers 2 = .ok (.iconst 0, 1) := by decide +kernel
theorem dX9_sumOfNumbers_3 : decode cX9_sumOfNumbers 3 = .ok (.istore_n 2, 1) := by decide +kernel
theorem dX9_sumOfNumbers_4 : decode cX9_sumOfNumbers 4 = .ok (.iload_n 2, 1) := by decide +kernel
theorem dX9_sumOfNumbers_5 : decode cX9_sumOfNumbers 5 = .ok (.iconst 4, 1) := by decide +kernel
theorem dX9_sumOfNumbers_6 : decode cX9_sumOfNumbers 6 = .ok (.if_icmp .ge 41, 3) := by decide +kernel
theorem dX9_sumOfNumbers_9 : decode cX9_sumOfNumbers 9 = .ok (.iconst 0, 1) := by decide +kernel
theorem dX9_sumOfNumbers_10 : decode cX9_sumOfNumbers 10 = .ok (.istore_n 3, 1) := by decide +kernel
theorem dX9_sumOfNumbers_11 : decode cX9_sumOfNumbers 11 = .ok (.iload_n 3, 1) := by decide +kernel
theorem dX9_sumOfNumbers_12 : decode cX9_sumOfNumbers 12 = .ok (.aload_n 0, 1) := by decide +kernel
theorem dX9_sumOfNumbers_13 : decode cX9_sumOfNumbers 13 = .ok (.iload_n 2, 1) := by decide +kernel
theorem dX9_sumOfNumbers_14 : decode cX9_sumOfNumbers 14 = .ok (.invokevirtual 100, 3) := by decide +kernel
theorem dX9_sumOfNumbers_17 : decode cX9_sumOfNumbers 17 = .ok (.if_icmp .ge 24, 3) := by decide +kernel
theorem dX9_sumOfNumbers_20 : decode cX9_sumOfNumbers 20 = .ok (.iload_n 1, 1) := by decide +kernel
theorem dX9_sumOfNumbers_21 : decode cX9_sumOfNumbers 21 = .ok (.aload_n 0, 1) := by decide +kernel
theorem dX9_sumOfNumbers_22 : decode cX9_sumOfNumbers 22 = .ok (.getfield 7, 3) := by decide +kernel
theorem dX9_sumOfNumbers_25 : decode cX9_sumOfNumbers 25 = .ok (.iload_n 2, 1) := by decide +kernel
theorem dX9_sumOfNumbers_26 : decode cX9_sumOfNumbers 26 = .ok (.iload_n 3, 1) := by decide +kernel
theorem dX9_sumOfNumbers_27 : decode cX9_sumOfNumbers 27 = .ok (.invokestatic 104, 3) := by decide +kernel
theorem dX9_sumOfNumbers_30 : decode cX9_sumOfNumbers 30 = .ok (.iconst 1, 1) := by decide +kernel
theorem dX9_sumOfNumbers_31 : decode cX9_sumOfNumbers 31 = .ok (.iadd, 1) := by decide +kernel
theorem dX9_sumOfNumbers_32 : decode cX9_sumOfNumbers 32 = .ok (.iaload, 1) := by decide +kernel
theorem dX9_sumOfNumbers_33 : decode cX9_sumOfNumbers 33 = .ok (.iadd, 1) := by decide +kernel
theorem dX9_sumOfNumbers_34 : decode cX9_sumOfNumbers 34 = .ok (.istore_n 1, 1) := by decide +kernel
theorem dX9_sumOfNumbers_35 : decode cX9_sumOfNumbers 35 = .ok (.iinc 3 1, 3) := by decide +kernel
theorem dX9_sumOfNumbers_38 : decode cX9_sumOfNumbers 38 = .ok (.goto (-27), 3) := by decide +kernel
theorem dX9_sumOfNumbers_41 : decode cX9_sumOfNumbers 41 = .ok (.iinc 2 1, 3) := by decide +kernel
theorem dX9_sumOfNumbers_44 : decode cX9_sumOfNumbers 44 = .ok (.goto (-40), 3) := by decide +kernel
theorem dX9_sumOfNumbers_47 : decode cX9_sumOfNumbers 47 = .ok (.iload_n 1, 1) := by decide +kernel
theorem dX9_sumOfNumbers_48 : decode cX9_sumOfNumbers 48 = .ok (.ireturn, 1) := by decide +kernel
theorem dX9_selves_0 : decode cX9_selves 0 = .ok (.aload_n 0, 1) := by decide +kernel
theorem dX9_selves_1 : decode cX9_selves 1 = .ok (.invokevirtual 221, 3) := by decide +kernel
theorem dX9_selves_4 : decode cX9_selves 4 = .ok (.iconst 0, 1) := by decide +kernel
theorem dX9_selves_5 : decode cX9_selves 5 = .ok (.istore_n 1, 1) := by decide +kernel
theorem dX9_selves_6 : decode cX9_selves 6 = .ok (.iconst 0, 1) := by decide +kernel
theorem dX9_selves_7 : decode cX9_selves 7 = .ok (.istore_n 2, 1) := by decide +kernel
theorem dX9_selves_8 : decode cX9_selves 8 = .ok (.iload_n 2, 1) := by decide +kernel
theorem dX9_selves_9 : decode cX9_selves 9 = .ok (.bipush 12, 2) := by decide +kernel
theorem dX9_selves_11 : decode cX9_selves 11 = .ok (.if_icmp .ge 33, 3) := by decide +kernel
theorem dX9_selves_14 : decode cX9_selves 14 = .ok (.iload_n 1, 1) := by decide +kernel
theorem dX9_selves_15 : decode cX9_selves 15 = .ok (.aload_n 0, 1) := by decide +kernel
theorem dX9_selves_16 : decode cX9_selves 16 = .ok (.getfield 84, 3) := by decide +kernel
theorem dX9_selves_19 : decode cX9_selves 19 = .ok (.iload_n 2, 1) := by decide +kernel
theorem dX9_selves_20 : decode cX9_selves 20 = .ok (.iaload, 1) := by decide +kernel
theorem dX9_selves_21 : decode cX9_selves 21 = .ok (.iload_n 2, 1) := by decide +kernel
theorem dX9_selves_22 : decode cX9_selves 22 = .ok (.ishr, 1) := by decide +kernel
theorem dX9_selves_23 : decode cX9_selves 23 = .ok (.iconst 1, 1) := by decide +kernel
theorem dX9_selves_24 : decode cX9_selves 24 = .ok (.iand, 1) := by decide +kernel
theorem dX9_selves_25 : decode cX9_selves 25 = .ok (.iconst 1, 1) := by decide +kernel
theorem dX9_selves_26 : decode cX9_selves 26 = .ok (.if_icmp .ne 9, 3) := by decide +kernel
theorem dX9_selves_29 : decode cX9_selves 29 = .ok (.iconst 1, 1) := by decide +kernel
theorem dX9_selves_30 : decode cX9_selves 30 = .ok (.iload_n 2, 1) := by decide +kernel
theorem dX9_selves_31 : decode cX9_selves 31 = .ok (.ishl, 1) := by decide +kernel
theorem dX9_selves_32 : decode cX9_selves 32 = .ok (.goto 4, 3) := by decide +kernel
theorem dX9_selves_35 : decode cX9_selves 35 = .ok (.iconst 0, 1) := by decide +kernel
theorem dX9_selves_36 : decode cX9_selves 36 = .ok (.ior, 1) := by decide +kernel
theorem dX9_selves_37 : decode cX9_selves 37 = .ok (.istore_n 1, 1) := by decide +kernel
theorem dX9_selves_38 : decode cX9_selves 38 = .ok (.iinc 2 1, 3) := by decide +kernel
theorem dX9_selves_41 : decode cX9_selves 41 = .ok (.goto (-33), 3) := by decide +kernel
theorem dX9_selves_44 : decode cX9_selves 44 = .ok (.iload_n 1, 1) := by decide +kernel
theorem dX9_selves_45 : decode cX9_selves 45 = .ok (.ireturn, 1) := by decide +kernel
theorem dX9_count_0 : decode cX9_count 0 = .ok (.aload_n 0, 1) := by decide +kernel
theorem dX9_count_1 : decode cX9_count 1 = .ok (.iconst 0, 1) := by decide +kernel
theorem dX9_count_2 : decode cX9_count 2 = .ok (.putfield 90, 3) := by decide +kernel
theorem dX9_count_5 : decode cX9_count 5 = .ok (.iload_n 1, 1) := by decide +kernel
theorem dX9_count_6 : decode cX9_count 6 = .ok (.tableswitch 97 4 11 #[46, 54, 63, 68, 75, 82, 87, 92], 46) := by decide +kernel
theorem dX9_count_52 : decode cX9_count 52 = .ok (.aload_n 0, 1) := by decide +kernel
theorem dX9_count_53 : decode cX9_count 53 = .ok (.getfield 7, 3) := by decide +kernel
theorem dX9_count_56 : decode cX9_count 56 = .ok (.bipush 102, 2) := by decide +kernel
theorem dX9_count_58 : decode cX9_count 58 = .ok (.iaload, 1) := by decide +kernel
theorem dX9_count_59 : decode cX9_count 59 = .ok (.ireturn, 1) := by decide +kernel
theorem dX9_count_60 : decode cX9_count 60 = .ok (.aload_n 0, 1) := by decide +kernel
theorem dX9_count_61 : decode cX9_count 61 = .ok (.getfield 7, 3) := by decide +kernel
theorem dX9_count_64 : decode cX9_count 64 = .ok (.sipush 199, 3) := by decide +kernel
theorem dX9_count_67 : decode cX9_count 67 = .ok (.iaload, 1) := by decide +kernel
theorem dX9_count_68 : decode cX9_count 68 = .ok (.ireturn, 1) := by decide +kernel
theorem dX9_count_69 : decode cX9_count 69 = .ok (.aload_n 0, 1) := by decide +kernel
theorem dX9_count_70 : decode cX9_count 70 = .ok (.invokevirtual 224, 3) := by decide +kernel
theorem dX9_count_73 : decode cX9_count 73 = .ok (.ireturn, 1) := by decide +kernel
theorem dX9_count_74 : decode cX9_count 74 = .ok (.aload_n 0, 1) := by decide +kernel
theorem dX9_count_75 : decode cX9_count 75 = .ok (.getfield 7, 3) := by decide +kernel
theorem dX9_count_78 : decode cX9_count 78 = .ok (.iconst 0, 1) := by decide +kernel
theorem dX9_count_79 : decode cX9_count 79 = .ok (.iaload, 1) := by decide +kernel
theorem dX9_count_80 : decode cX9_count 80 = .ok (.ireturn, 1) := by decide +kernel
theorem dX9_count_81 : decode cX9_count 81 = .ok (.aload_n 0, 1) := by decide +kernel
theorem dX9_count_82 : decode cX9_count 82 = .ok (.getfield 7, 3) := by decide +kernel
theorem dX9_count_85 : decode cX9_count 85 = .ok (.iconst 1, 1) := by decide +kernel
theorem dX9_count_86 : decode cX9_count 86 = .ok (.iaload, 1) := by decide +kernel
theorem dX9_count_87 : decode cX9_count 87 = .ok (.ireturn, 1) := by decide +kernel
theorem dX9_count_88 : decode cX9_count 88 = .ok (.aload_n 0, 1) := by decide +kernel
theorem dX9_count_89 : decode cX9_count 89 = .ok (.invokevirtual 228, 3) := by decide +kernel
theorem dX9_count_92 : decode cX9_count 92 = .ok (.ireturn, 1) := by decide +kernel
theorem dX9_count_93 : decode cX9_count 93 = .ok (.aload_n 0, 1) := by decide +kernel
theorem dX9_count_94 : decode cX9_count 94 = .ok (.getfield 231, 3) := by decide +kernel
theorem dX9_count_97 : decode cX9_count 97 = .ok (.ireturn, 1) := by decide +kernel
theorem dX9_count_98 : decode cX9_count 98 = .ok (.aload_n 0, 1) := by decide +kernel
theorem dX9_count_99 : decode cX9_count 99 = .ok (.getfield 97, 3) := by decide +kernel
theorem dX9_count_102 : decode cX9_count 102 = .ok (.ireturn, 1) := by decide +kernel
theorem dX9_count_103 : decode cX9_count 103 = .ok (.iload_n 1, 1) := by decide +kernel
theorem dX9_count_104 : decode cX9_count 104 = .ok (.invokestatic 201, 3) := by decide +kernel
theorem dX9_count_107 : decode cX9_count 107 = .ok (.ifCond .eq 11, 3) := by decide +kernel
theorem dX9_count_110 : decode cX9_count 110 = .ok (.aload_n 0, 1) := by decide +kernel
theorem dX9_count_111 : decode cX9_count 111 = .ok (.iload_n 1, 1) := by decide +kernel
theorem dX9_count_112 : decode cX9_count 112 = .ok (.invokevirtual 100, 3) := by decide +kernel
theorem dX9_count_115 : decode cX9_count 115 = .ok (.goto 5, 3) := by decide +kernel
theorem dX9_count_118 : decode cX9_count 118 = .ok (.bipush (-2), 2) := by decide +kernel
theorem dX9_count_120 : decode cX9_count 120 = .ok (.ireturn, 1) := by decide +kernel
theorem dX9_culprits_0 : decode cX9_culprits 0 = .ok (.aload_n 0, 1) := by decide +kernel
theorem dX9_culprits_1 : decode cX9_culprits 1 = .ok (.iconst 0, 1) := by decide +kernel
theorem dX9_culprits_2 : decode cX9_culprits 2 = .ok (.putfield 90, 3) := by decide +kernel
theorem dX9_culprits_5 : decode cX9_culprits 5 = .ok (.iload_n 1, 1) := by decide +kernel
theorem dX9_culprits_6 : decode cX9_culprits 6 = .ok (.iload_n 2, 1) := by decide +kernel
theorem dX9_culprits_7 : decode cX9_culprits 7 = .ok (.iload_n 3, 1) := by decide +kernel
theorem dX9_culprits_8 : decode cX9_culprits 8 = .ok (.iload 4, 2) := by decide +kernel
theorem dX9_culprits_10 : decode cX9_culprits 10 = .ok (.invokestatic 211, 3) := by decide +kernel
theorem dX9_culprits_13 : decode cX9_culprits 13 = .ok (.istore 5, 2) := by decide +kernel
theorem dX9_culprits_15 : decode cX9_culprits 15 = .ok (.iload 5, 2) := by decide +kernel
theorem dX9_culprits_17 : decode cX9_culprits 17 = .ok (.ifCond .eq 6, 3) := by decide +kernel
theorem dX9_culprits_20 : decode cX9_culprits 20 = .ok (.iload 5, 2) := by decide +kernel
theorem dX9_culprits_22 : decode cX9_culprits 22 = .ok (.ireturn, 1) := by decide +kernel
theorem dX9_culprits_23 : decode cX9_culprits 23 = .ok (.aload_n 0, 1) := by decide +kernel
theorem dX9_culprits_24 : decode cX9_culprits 24 = .ok (.iload_n 1, 1) := by decide +kernel
theorem dX9_culprits_25 : decode cX9_culprits 25 = .ok (.iload_n 2, 1) := by decide +kernel
theorem dX9_culprits_26 : decode cX9_culprits 26 = .ok (.iload_n 3, 1) := by decide +kernel
theorem dX9_culprits_27 : decode cX9_culprits 27 = .ok (.iload 4, 2) := by decide +kernel
theorem dX9_culprits_29 : decode cX9_culprits 29 = .ok (.invokevirtual 215, 3) := by decide +kernel
theorem dX9_culprits_32 : decode cX9_culprits 32 = .ok (.ifCond .eq 6, 3) := by decide +kernel
theorem dX9_culprits_35 : decode cX9_culprits 35 = .ok (.bipush (-6), 2) := by decide +kernel
theorem dX9_culprits_37 : decode cX9_culprits 37 = .ok (.ireturn, 1) := by decide +kernel
theorem dX9_culprits_38 : decode cX9_culprits 38 = .ok (.iconst 0, 1) := by decide +kernel
theorem dX9_culprits_39 : decode cX9_culprits 39 = .ok (.istore 6, 2) := by decide +kernel
theorem dX9_culprits_41 : decode cX9_culprits 41 = .ok (.iconst 0, 1) := by decide +kernel
theorem dX9_culprits_42 : decode cX9_culprits 42 = .ok (.istore 7, 2) := by decide +kernel
theorem dX9_culprits_44 : decode cX9_culprits 44 = .ok (.iload 7, 2) := by decide +kernel
theorem dX9_culprits_46 : decode cX9_culprits 46 = .ok (.aload_n 0, 1) := by decide +kernel
theorem dX9_culprits_47 : decode cX9_culprits 47 = .ok (.getfield 7, 3) := by decide +kernel
theorem dX9_culprits_50 : decode cX9_culprits 50 = .ok (.bipush 102, 2) := by decide +kernel
theorem dX9_culprits_52 : decode cX9_culprits 52 = .ok (.iaload, 1) := by decide +kernel
theorem dX9_culprits_53 : decode cX9_culprits 53 = .ok (.if_icmp .ge 40, 3) := by decide +kernel
theorem dX9_culprits_56 : decode cX9_culprits 56 = .ok (.aload_n 0, 1) := by decide +kernel
theorem dX9_culprits_57 : decode cX9_culprits 57 = .ok (.iload 7, 2) := by decide +kernel
theorem dX9_culprits_59 : decode cX9_culprits 59 = .ok (.putfield 32, 3) := by decide +kernel
theorem dX9_culprits_62 : decode cX9_culprits 62 = .ok (.iload 6, 2) := by decide +kernel
theorem dX9_culprits_64 : decode cX9_culprits 64 = .ok (.aload_n 0, 1) := by decide +kernel
theorem dX9_culprits_65 : decode cX9_culprits 65 = .ok (.iload_n 1, 1) := by decide +kernel
theorem dX9_culprits_66 : decode cX9_culprits 66 = .ok (.iload_n 2, 1) := by decide +kernel
theorem dX9_culprits_67 : decode cX9_culprits 67 = .ok (.iload_n 3, 1) := by decide +kernel
theorem dX9_culprits_68 : decode cX9_culprits 68 = .ok (.iload 4, 2) := by decide +kernel
theorem dX9_culprits_70 : decode cX9_culprits 70 = .ok (.invokevirtual 215, 3) := by decide +kernel
theorem dX9_culprits_73 : decode cX9_culprits 73 = .ok (.ifCond .eq 10, 3) := by decide +kernel
theorem dX9_culprits_76 : decode cX9_culprits 76 = .ok (.iconst 1, 1) := by decide +kernel
theorem dX9_culprits_77 : decode cX9_culprits 77 = .ok (.iload 7, 2) := by decide +kernel
theorem dX9_culprits_79 : decode cX9_culprits 79 = .ok (.ishl, 1) := by decide +kernel
theorem dX9_culprits_80 : decode cX9_culprits 80 = .ok (.goto 4, 3) := by decide +kernel
theorem dX9_culprits_83 : decode cX9_culprits 83 = .ok (.iconst 0, 1) := by decide +kernel
theorem dX9_culprits_84 : decode cX9_culprits 84 = .ok (.ior, 1) := by decide +kernel
theorem dX9_culprits_85 : decode cX9_culprits 85 = .ok (.istore 6, 2) := by decide +kernel
theorem dX9_culprits_87 : decode cX9_culprits 87 = .ok (.iinc 7 1, 3) := by decide +kernel
theorem dX9_culprits_90 : decode cX9_culprits 90 = .ok (.goto (-46), 3) := by decide +kernel
theorem dX9_culprits_93 : decode cX9_culprits 93 = .ok (.aload_n 0, 1) := by decide +kernel
theorem dX9_culprits_94 : decode cX9_culprits 94 = .ok (.bipush (-6), 2) := by decide +kernel
theorem dX9_culprits_96 : decode cX9_culprits 96 = .ok (.putfield 32, 3) := by decide +kernel
theorem dX9_culprits_99 : decode cX9_culprits 99 = .ok (.iload 6, 2) := by decide +kernel
theorem dX9_culprits_101 : decode cX9_culprits 101 = .ok (.ireturn, 1) := by decide +kernel
theorem dX9_leastDepth_0 : decode cX9_leastDepth 0 = .ok (.aload_n 0, 1) := by decide +kernel
theorem dX9_leastDepth_1 : decode cX9_leastDepth 1 = .ok (.iconst 0, 1) := by decide +kernel
theorem dX9_leastDepth_2 : decode cX9_leastDepth 2 = .ok (.putfield 90, 3) := by decide +kernel
theorem dX9_leastDepth_5 : decode cX9_leastDepth 5 = .ok (.iload_n 1, 1) := by decide +kernel
theorem dX9_leastDepth_6 : decode cX9_leastDepth 6 = .ok (.iload_n 2, 1) := by decide +kernel
theorem dX9_leastDepth_7 : decode cX9_leastDepth 7 = .ok (.iload_n 3, 1) := by decide +kernel
theorem dX9_leastDepth_8 : decode cX9_leastDepth 8 = .ok (.iload 4, 2) := by decide +kernel
theorem dX9_leastDepth_10 : decode cX9_leastDepth 10 = .ok (.invokestatic 211, 3) := by decide +kernel
theorem dX9_leastDepth_13 : decode cX9_leastDepth 13 = .ok (.istore 5, 2) := by decide +kernel
theorem dX9_leastDepth_15 : decode cX9_leastDepth 15 = .ok (.iload 5, 2) := by decide +kernel
theorem dX9_leastDepth_17 : decode cX9_leastDepth 17 = .ok (.ifCond .eq 6, 3) := by decide +kernel
theorem dX9_leastDepth_20 : decode cX9_leastDepth 20 = .ok (.iload 5, 2) := by decide +kernel
theorem dX9_leastDepth_22 : decode cX9_leastDepth 22 = .ok (.ireturn, 1) := by decide +kernel
theorem dX9_leastDepth_23 : decode cX9_leastDepth 23 = .ok (.aload_n 0, 1) := by decide +kernel
theorem dX9_leastDepth_24 : decode cX9_leastDepth 24 = .ok (.getfield 7, 3) := by decide +kernel
theorem dX9_leastDepth_27 : decode cX9_leastDepth 27 = .ok (.iconst 0, 1) := by decide +kernel
theorem dX9_leastDepth_28 : decode cX9_leastDepth 28 = .ok (.iaload, 1) := by decide +kernel
theorem dX9_leastDepth_29 : decode cX9_leastDepth 29 = .ok (.istore 6, 2) := by decide +kernel
theorem dX9_leastDepth_31 : decode cX9_leastDepth 31 = .ok (.bipush (-6), 2) := by decide +kernel
theorem dX9_leastDepth_33 : decode cX9_leastDepth 33 = .ok (.istore 7, 2) := by decide +kernel
theorem dX9_leastDepth_35 : decode cX9_leastDepth 35 = .ok (.bipush 8, 2) := by decide +kernel
theorem dX9_leastDepth_37 : decode cX9_leastDepth 37 = .ok (.istore 8, 2) := by decide +kernel
theorem dX9_leastDepth_39 : decode cX9_leastDepth 39 = .ok (.iload 8, 2) := by decide +kernel
theorem dX9_leastDepth_41 : decode cX9_leastDepth 41 = .ok (.ifCond .lt 38, 3) := by decide +kernel
theorem dX9_leastDepth_44 : decode cX9_leastDepth 44 = .ok (.aload_n 0, 1) := by decide +kernel
theorem dX9_leastDepth_45 : decode cX9_leastDepth 45 = .ok (.getfield 7, 3) := by decide +kernel
theorem dX9_leastDepth_48 : decode cX9_leastDepth 48 = .ok (.iconst 0, 1) := by decide +kernel
theorem dX9_leastDepth_49 : decode cX9_leastDepth 49 = .ok (.iload 8, 2) := by decide +kernel
theorem dX9_leastDepth_51 : decode cX9_leastDepth 51 = .ok (.iastore, 1) := by decide +kernel
theorem dX9_leastDepth_52 : decode cX9_leastDepth 52 = .ok (.aload_n 0, 1) := by decide +kernel
theorem dX9_leastDepth_53 : decode cX9_leastDepth 53 = .ok (.iload_n 1, 1) := by decide +kernel
theorem dX9_leastDepth_54 : decode cX9_leastDepth 54 = .ok (.iload_n 2, 1) := by decide +kernel
theorem dX9_leastDepth_55 : decode cX9_leastDepth 55 = .ok (.iload_n 3, 1) := by decide +kernel
theorem dX9_leastDepth_56 : decode cX9_leastDepth 56 = .ok (.iload 4, 2) := by decide +kernel
theorem dX9_leastDepth_58 : decode cX9_leastDepth 58 = .ok (.invokevirtual 215, 3) := by decide +kernel
theorem dX9_leastDepth_61 : decode cX9_leastDepth 61 = .ok (.ifCond .eq 8, 3) := by decide +kernel
theorem dX9_leastDepth_64 : decode cX9_leastDepth 64 = .ok (.iload 8, 2) := by decide +kernel
theorem dX9_leastDepth_66 : decode cX9_leastDepth 66 = .ok (.goto 5, 3) := by decide +kernel
theorem dX9_leastDepth_69 : decode cX9_leastDepth 69 = .ok (.iload 7, 2) := by decide +kernel
theorem dX9_leastDepth_71 : decode cX9_leastDepth 71 = .ok (.istore 7, 2) := by decide +kernel
theorem dX9_leastDepth_73 : decode cX9_leastDepth 73 = .ok (.iinc 8 (-1), 3) := by decide +kernel
theorem dX9_leastDepth_76 : decode cX9_leastDepth 76 = .ok (.goto (-37), 3) := by decide +kernel
theorem dX9_leastDepth_79 : decode cX9_leastDepth 79 = .ok (.aload_n 0, 1) := by decide +kernel
theorem dX9_leastDepth_80 : decode cX9_leastDepth 80 = .ok (.getfield 7, 3) := by decide +kernel
theorem dX9_leastDepth_83 : decode cX9_leastDepth 83 = .ok (.iconst 0, 1) := by decide +kernel
theorem dX9_leastDepth_84 : decode cX9_leastDepth 84 = .ok (.iload 6, 2) := by decide +kernel
theorem dX9_leastDepth_86 : decode cX9_leastDepth 86 = .ok (.iastore, 1) := by decide +kernel
theorem dX9_leastDepth_87 : decode cX9_leastDepth 87 = .ok (.iload 7, 2) := by decide +kernel
theorem dX9_leastDepth_89 : decode cX9_leastDepth 89 = .ok (.ireturn, 1) := by decide +kernel
theorem dX9_put_0 : decode cX9_put 0 = .ok (.aload_n 0, 1) := by decide +kernel
theorem dX9_put_1 : decode cX9_put 1 = .ok (.iconst 0, 1) := by decide +kernel
theorem dX9_put_2 : decode cX9_put 2 = .ok (.putfield 90, 3) := by decide +kernel
theorem dX9_put_5 : decode cX9_put 5 = .ok (.iconst 0, 1) := by decide +kernel
theorem dX9_put_6 : decode cX9_put 6 = .ok (.istore_n 3, 1) := by decide +kernel
theorem dX9_put_7 : decode cX9_put 7 = .ok (.lload_n 1, 1) := by decide +kernel
theorem dX9_put_8 : decode cX9_put 8 = .ok (.lstore 4, 2) := by decide +kernel
theorem dX9_put_10 : decode cX9_put 10 = .ok (.iconst 1, 1) := by decide +kernel
theorem dX9_put_11 : decode cX9_put 11 = .ok (.istore 6, 2) := by decide +kernel
theorem dX9_put_13 : decode cX9_put 13 = .ok (.iload_n 3, 1) := by decide +kernel
theorem dX9_put_14 : decode cX9_put 14 = .ok (.bipush 8, 2) := by decide +kernel
theorem dX9_put_16 : decode cX9_put 16 = .ok (.if_icmp .ge 56, 3) := by decide +kernel
theorem dX9_put_19 : decode cX9_put 19 = .ok (.lload 4, 2) := by decide +kernel
theorem dX9_put_21 : decode cX9_put 21 = .ok (.ldc2_w 234, 3) := by decide +kernel
theorem dX9_put_24 : decode cX9_put 24 = .ok (.land, 1) := by decide +kernel
theorem dX9_put_25 : decode cX9_put 25 = .ok (.lconst 0, 1) := by decide +kernel
theorem dX9_put_26 : decode cX9_put 26 = .ok (.lcmp, 1) := by decide +kernel
theorem dX9_put_27 : decode cX9_put 27 = .ok (.ifCond .eq 45, 3) := by decide +kernel
theorem dX9_put_30 : decode cX9_put 30 = .ok (.iload 6, 2) := by decide +kernel
theorem dX9_put_32 : decode cX9_put 32 = .ok (.ifCond .eq 24, 3) := by decide +kernel
theorem dX9_put_35 : decode cX9_put 35 = .ok (.lload 4, 2) := by decide +kernel
theorem dX9_put_37 : decode cX9_put 37 = .ok (.ldc2_w 234, 3) := by decide +kernel
theorem dX9_put_40 : decode cX9_put 40 = .ok (.land, 1) := by decide +kernel
theorem dX9_put_41 : decode cX9_put 41 = .ok (.l2i, 1) := by decide +kernel
theorem dX9_put_42 : decode cX9_put 42 = .ok (.bipush 33, 2) := by decide +kernel
theorem dX9_put_44 : decode cX9_put 44 = .ok (.bipush 126, 2) := by decide +kernel
theorem dX9_put_46 : decode cX9_put 46 = .ok (.invokestatic 93, 3) := by decide +kernel
theorem dX9_put_49 : decode cX9_put 49 = .ok (.ifCond .eq 7, 3) := by decide +kernel
theorem dX9_put_52 : decode cX9_put 52 = .ok (.iconst 1, 1) := by decide +kernel
theorem dX9_put_53 : decode cX9_put 53 = .ok (.goto 4, 3) := by decide +kernel
theorem dX9_put_56 : decode cX9_put 56 = .ok (.iconst 0, 1) := by decide +kernel
theorem dX9_put_57 : decode cX9_put 57 = .ok (.istore 6, 2) := by decide +kernel
theorem dX9_put_59 : decode cX9_put 59 = .ok (.lload 4, 2) := by decide +kernel
theorem dX9_put_61 : decode cX9_put 61 = .ok (.bipush 8, 2) := by decide +kernel
theorem dX9_put_63 : decode cX9_put 63 = .ok (.lushr, 1) := by decide +kernel
theorem dX9_put_64 : decode cX9_put 64 = .ok (.lstore 4, 2) := by decide +kernel
theorem dX9_put_66 : decode cX9_put 66 = .ok (.iinc 3 1, 3) := by decide +kernel
theorem dX9_put_69 : decode cX9_put 69 = .ok (.goto (-56), 3) := by decide +kernel
theorem dX9_put_72 : decode cX9_put 72 = .ok (.iload_n 3, 1) := by decide +kernel
theorem dX9_put_73 : decode cX9_put 73 = .ok (.ifCond .eq 15, 3) := by decide +kernel
theorem dX9_put_76 : decode cX9_put 76 = .ok (.iload 6, 2) := by decide +kernel
theorem dX9_put_78 : decode cX9_put 78 = .ok (.ifCond .eq 10, 3) := by decide +kernel
theorem dX9_put_81 : decode cX9_put 81 = .ok (.lload 4, 2) := by decide +kernel
theorem dX9_put_83 : decode cX9_put 83 = .ok (.lconst 0, 1) := by decide +kernel
theorem dX9_put_84 : decode cX9_put 84 = .ok (.lcmp, 1) := by decide +kernel
theorem dX9_put_85 : decode cX9_put 85 = .ok (.ifCond .eq 6, 3) := by decide +kernel
theorem dX9_put_88 : decode cX9_put 88 = .ok (.bipush (-2), 2) := by decide +kernel
theorem dX9_put_90 : decode cX9_put 90 = .ok (.ireturn, 1) := by decide +kernel
theorem dX9_put_91 : decode cX9_put 91 = .ok (.aload_n 0, 1) := by decide +kernel
theorem dX9_put_92 : decode cX9_put 92 = .ok (.getfield 231, 3) := by decide +kernel
theorem dX9_put_95 : decode cX9_put 95 = .ok (.iload_n 3, 1) := by decide +kernel
theorem dX9_put_96 : decode cX9_put 96 = .ok (.iadd, 1) := by decide +kernel
theorem dX9_put_97 : decode cX9_put 97 = .ok (.bipush 60, 2) := by decide +kernel
theorem dX9_put_99 : decode cX9_put 99 = .ok (.if_icmp .le 6, 3) := by decide +kernel
theorem dX9_put_102 : decode cX9_put 102 = .ok (.bipush (-4), 2) := by decide +kernel
theorem dX9_put_104 : decode cX9_put 104 = .ok (.ireturn, 1) := by decide +kernel
theorem dX9_put_105 : decode cX9_put 105 = .ok (.iconst 0, 1) := by decide +kernel
theorem dX9_put_106 : decode cX9_put 106 = .ok (.istore 7, 2) := by decide +kernel
theorem dX9_put_108 : decode cX9_put 108 = .ok (.iload 7, 2) := by decide +kernel
theorem dX9_put_110 : decode cX9_put 110 = .ok (.iload_n 3, 1) := by decide +kernel
theorem dX9_put_111 : decode cX9_put 111 = .ok (.if_icmp .ge 37, 3) := by decide +kernel
theorem dX9_put_114 : decode cX9_put 114 = .ok (.aload_n 0, 1) := by decide +kernel
theorem dX9_put_115 : decode cX9_put 115 = .ok (.getfield 26, 3) := by decide +kernel
theorem dX9_put_118 : decode cX9_put 118 = .ok (.aload_n 0, 1) := by decide +kernel
theorem dX9_put_119 : decode cX9_put 119 = .ok (.getfield 231, 3) := by decide +kernel
theorem dX9_put_122 : decode cX9_put 122 = .ok (.iload 7, 2) := by decide +kernel
theorem dX9_put_124 : decode cX9_put 124 = .ok (.iadd, 1) := by decide +kernel
theorem dX9_put_125 : decode cX9_put 125 = .ok (.lload_n 1, 1) := by decide +kernel
theorem dX9_put_126 : decode cX9_put 126 = .ok (.bipush 8, 2) := by decide +kernel
theorem dX9_put_128 : decode cX9_put 128 = .ok (.iload_n 3, 1) := by decide +kernel
theorem dX9_put_129 : decode cX9_put 129 = .ok (.iconst 1, 1) := by decide +kernel
theorem dX9_put_130 : decode cX9_put 130 = .ok (.isub, 1) := by decide +kernel
theorem dX9_put_131 : decode cX9_put 131 = .ok (.iload 7, 2) := by decide +kernel
theorem dX9_put_133 : decode cX9_put 133 = .ok (.isub, 1) := by decide +kernel
theorem dX9_put_134 : decode cX9_put 134 = .ok (.imul, 1) := by decide +kernel
theorem dX9_put_135 : decode cX9_put 135 = .ok (.lushr, 1) := by decide +kernel
theorem dX9_put_136 : decode cX9_put 136 = .ok (.ldc2_w 234, 3) := by decide +kernel
theorem dX9_put_139 : decode cX9_put 139 = .ok (.land, 1) := by decide +kernel
theorem dX9_put_140 : decode cX9_put 140 = .ok (.l2i, 1) := by decide +kernel
theorem dX9_put_141 : decode cX9_put 141 = .ok (.iastore, 1) := by decide +kernel
theorem dX9_put_142 : decode cX9_put 142 = .ok (.iinc 7 1, 3) := by decide +kernel
theorem dX9_put_145 : decode cX9_put 145 = .ok (.goto (-37), 3) := by decide +kernel
theorem dX9_put_148 : decode cX9_put 148 = .ok (.aload_n 0, 1) := by decide +kernel
theorem dX9_put_149 : decode cX9_put 149 = .ok (.dup, 1) := by decide +kernel
theorem dX9_put_150 : decode cX9_put 150 = .ok (.getfield 231, 3) := by decide +kernel
theorem dX9_put_153 : decode cX9_put 153 = .ok (.iload_n 3, 1) := by decide +kernel
theorem dX9_put_154 : decode cX9_put 154 = .ok (.iadd, 1) := by decide +kernel
theorem dX9_put_155 : decode cX9_put 155 = .ok (.putfield 231, 3) := by decide +kernel
theorem dX9_put_158 : decode cX9_put 158 = .ok (.aload_n 0, 1) := by decide +kernel
theorem dX9_put_159 : decode cX9_put 159 = .ok (.getfield 231, 3) := by decide +kernel
theorem dX9_put_162 : decode cX9_put 162 = .ok (.ireturn, 1) := by decide +kernel
theorem dX9_wipe_0 : decode cX9_wipe 0 = .ok (.aload_n 0, 1) := by decide +kernel
theorem dX9_wipe_1 : decode cX9_wipe 1 = .ok (.iconst 0, 1) := by decide +kernel
theorem dX9_wipe_2 : decode cX9_wipe 2 = .ok (.putfield 90, 3) := by decide +kernel
theorem dX9_wipe_5 : decode cX9_wipe 5 = .ok (.aload_n 0, 1) := by decide +kernel
theorem dX9_wipe_6 : decode cX9_wipe 6 = .ok (.getfield 231, 3) := by decide +kernel
theorem dX9_wipe_9 : decode cX9_wipe 9 = .ok (.istore_n 1, 1) := by decide +kernel
theorem dX9_wipe_10 : decode cX9_wipe 10 = .ok (.aload_n 0, 1) := by decide +kernel
theorem dX9_wipe_11 : decode cX9_wipe 11 = .ok (.iconst 0, 1) := by decide +kernel
theorem dX9_wipe_12 : decode cX9_wipe 12 = .ok (.putfield 231, 3) := by decide +kernel
theorem dX9_wipe_15 : decode cX9_wipe 15 = .ok (.iload_n 1, 1) := by decide +kernel
theorem dX9_wipe_16 : decode cX9_wipe 16 = .ok (.ireturn, 1) := by decide +kernel
theorem dX9_sign_0 : decode cX9_sign 0 = .ok (.aload_n 0, 1) := by decide +kernel
theorem dX9_sign_1 : decode cX9_sign 1 = .ok (.getfield 236, 3) := by decide +kernel
theorem dX9_sign_4 : decode cX9_sign 4 = .ok (.aload_n 0, 1) := by decide +kernel
theorem dX9_sign_5 : decode cX9_sign 5 = .ok (.getfield 231, 3) := by decide +kernel
theorem dX9_sign_8 : decode cX9_sign 8 = .ok (.if_icmp .ge 15, 3) := by decide +kernel
theorem dX9_sign_11 : decode cX9_sign 11 = .ok (.aload_n 0, 1) := by decide +kernel
theorem dX9_sign_12 : decode cX9_sign 12 = .ok (.getfield 26, 3) := by decide +kernel
theorem dX9_sign_15 : decode cX9_sign 15 = .ok (.aload_n 0, 1) := by decide +kernel
theorem dX9_sign_16 : decode cX9_sign 16 = .ok (.getfield 236, 3) := by decide +kernel
theorem dX9_sign_19 : decode cX9_sign 19 = .ok (.iaload, 1) := by decide +kernel
theorem dX9_sign_20 : decode cX9_sign 20 = .ok (.goto 4, 3) := by decide +kernel
theorem dX9_sign_23 : decode cX9_sign 23 = .ok (.iconst 0, 1) := by decide +kernel
theorem dX9_sign_24 : decode cX9_sign 24 = .ok (.ireturn, 1) := by decide +kernel
theorem dX9_takes_0 : decode cX9_takes 0 = .ok (.aload_n 0, 1) := by decide +kernel
theorem dX9_takes_1 : decode cX9_takes 1 = .ok (.aload_n 0, 1) := by decide +kernel
theorem dX9_takes_2 : decode cX9_takes 2 = .ok (.getfield 239, 3) := by decide +kernel
theorem dX9_takes_5 : decode cX9_takes 5 = .ok (.ifCond .eq 19, 3) := by decide +kernel
theorem dX9_takes_8 : decode cX9_takes 8 = .ok (.aload_n 0, 1) := by decide +kernel
theorem dX9_takes_9 : decode cX9_takes 9 = .ok (.invokevirtual 243, 3) := by decide +kernel
theorem dX9_takes_12 : decode cX9_takes 12 = .ok (.iload_n 1, 1) := by decide +kernel
theorem dX9_takes_13 : decode cX9_takes 13 = .ok (.iload_n 2, 1) := by decide +kernel
theorem dX9_takes_14 : decode cX9_takes 14 = .ok (.invokestatic 93, 3) := by decide +kernel
theorem dX9_takes_17 : decode cX9_takes 17 = .ok (.ifCond .eq 7, 3) := by decide +kernel
theorem dX9_takes_20 : decode cX9_takes 20 = .ok (.iconst 1, 1) := by decide +kernel
theorem dX9_takes_21 : decode cX9_takes 21 = .ok (.goto 4, 3) := by decide +kernel
theorem dX9_takes_24 : decode cX9_takes 24 = .ok (.iconst 0, 1) := by decide +kernel
theorem dX9_takes_25 : decode cX9_takes 25 = .ok (.putfield 239, 3) := by decide +kernel
theorem dX9_takes_28 : decode cX9_takes 28 = .ok (.aload_n 0, 1) := by decide +kernel
theorem dX9_takes_29 : decode cX9_takes 29 = .ok (.invokevirtual 243, 3) := by decide +kernel
theorem dX9_takes_32 : decode cX9_takes 32 = .ok (.iload_n 1, 1) := by decide +kernel
theorem dX9_takes_33 : decode cX9_takes 33 = .ok (.isub, 1) := by decide +kernel
theorem dX9_takes_34 : decode cX9_takes 34 = .ok (.istore_n 3, 1) := by decide +kernel
theorem dX9_takes_35 : decode cX9_takes 35 = .ok (.aload_n 0, 1) := by decide +kernel
theorem dX9_takes_36 : decode cX9_takes 36 = .ok (.dup, 1) := by decide +kernel
theorem dX9_takes_37 : decode cX9_takes 37 = .ok (.getfield 236, 3) := by decide +kernel
theorem dX9_takes_40 : decode cX9_takes 40 = .ok (.aload_n 0, 1) := by decide +kernel
theorem dX9_takes_41 : decode cX9_takes 41 = .ok (.getfield 239, 3) := by decide +kernel
theorem dX9_takes_44 : decode cX9_takes 44 = .ok (.ifCond .eq 7, 3) := by decide +kernel
theorem dX9_takes_47 : decode cX9_takes 47 = .ok (.iconst 1, 1) := by decide +kernel
theorem dX9_takes_48 : decode cX9_takes 48 = .ok (.goto 4, 3) := by decide +kernel
theorem dX9_takes_51 : decode cX9_takes 51 = .ok (.iconst 0, 1) := by decide +kernel
theorem dX9_takes_52 : decode cX9_takes 52 = .ok (.iadd, 1) := by decide +kernel
theorem dX9_takes_53 : decode cX9_takes 53 = .ok (.putfield 236, 3) := by decide +kernel
theorem dX9_takes_56 : decode cX9_takes 56 = .ok (.iload_n 3, 1) := by decide +kernel
theorem dX9_takes_57 : decode cX9_takes 57 = .ok (.ireturn, 1) := by decide +kernel
theorem dX9_number_0 : decode cX9_number 0 = .ok (.aload_n 0, 1) := by decide +kernel
theorem dX9_number_1 : decode cX9_number 1 = .ok (.bipush 48, 2) := by decide +kernel
theorem dX9_number_3 : decode cX9_number 3 = .ok (.bipush 57, 2) := by decide +kernel
theorem dX9_number_5 : decode cX9_number 5 = .ok (.invokevirtual 246, 3) := by decide +kernel
theorem dX9_number_8 : decode cX9_number 8 = .ok (.istore_n 2, 1) := by decide +kernel
theorem dX9_number_9 : decode cX9_number 9 = .ok (.iconst 1, 1) := by decide +kernel
theorem dX9_number_10 : decode cX9_number 10 = .ok (.istore_n 3, 1) := by decide +kernel
theorem dX9_number_11 : decode cX9_number 11 = .ok (.iload_n 3, 1) := by decide +kernel
theorem dX9_number_12 : decode cX9_number 12 = .ok (.iload_n 1, 1) := by decide +kernel
theorem dX9_number_13 : decode cX9_number 13 = .ok (.if_icmp .ge 48, 3) := by decide +kernel
theorem dX9_number_16 : decode cX9_number 16 = .ok (.aload_n 0, 1) := by decide +kernel
theorem dX9_number_17 : decode cX9_number 17 = .ok (.getfield 239, 3) := by decide +kernel
theorem dX9_number_20 : decode cX9_number 20 = .ok (.ifCond .eq 41, 3) := by decide +kernel
theorem dX9_number_23 : decode cX9_number 23 = .ok (.iload_n 2, 1) := by decide +kernel
theorem dX9_number_24 : decode cX9_number 24 = .ok (.ifCond .le 37, 3) := by decide +kernel
theorem dX9_number_27 : decode cX9_number 27 = .ok (.aload_n 0, 1) := by decide +kernel
theorem dX9_number_28 : decode cX9_number 28 = .ok (.invokevirtual 243, 3) := by decide +kernel
theorem dX9_number_31 : decode cX9_number 31 = .ok (.bipush 48, 2) := by decide +kernel
theorem dX9_number_33 : decode cX9_number 33 = .ok (.bipush 57, 2) := by decide +kernel
theorem dX9_number_35 : decode cX9_number 35 = .ok (.invokestatic 93, 3) := by decide +kernel
theorem dX9_number_38 : decode cX9_number 38 = .ok (.ifCond .eq 23, 3) := by decide +kernel
theorem dX9_number_41 : decode cX9_number 41 = .ok (.bipush 10, 2) := by decide +kernel
theorem dX9_number_43 : decode cX9_number 43 = .ok (.iload_n 2, 1) := by decide +kernel
theorem dX9_number_44 : decode cX9_number 44 = .ok (.imul, 1) := by decide +kernel
theorem dX9_number_45 : decode cX9_number 45 = .ok (.aload_n 0, 1) := by decide +kernel
theorem dX9_number_46 : decode cX9_number 46 = .ok (.bipush 48, 2) := by decide +kernel
theorem dX9_number_48 : decode cX9_number 48 = .ok (.bipush 57, 2) := by decide +kernel
theorem dX9_number_50 : decode cX9_number 50 = .ok (.invokevirtual 246, 3) := by decide +kernel
theorem dX9_number_53 : decode cX9_number 53 = .ok (.iadd, 1) := by decide +kernel
theorem dX9_number_54 : decode cX9_number 54 = .ok (.istore_n 2, 1) := by decide +kernel
theorem dX9_number_55 : decode cX9_number 55 = .ok (.iinc 3 1, 3) := by decide +kernel
theorem dX9_number_58 : decode cX9_number 58 = .ok (.goto (-47), 3) := by decide +kernel
theorem dX9_number_61 : decode cX9_number 61 = .ok (.iload_n 2, 1) := by decide +kernel
theorem dX9_number_62 : decode cX9_number 62 = .ok (.ireturn, 1) := by decide +kernel
theorem dX9_readsStatement_0 : decode cX9_readsStatement 0 = .ok (.aload_n 0, 1) := by decide +kernel
theorem dX9_readsStatement_1 : decode cX9_readsStatement 1 = .ok (.invokevirtual 243, 3) := by decide +kernel
theorem dX9_readsStatement_4 : decode cX9_readsStatement 4 = .ok (.istore_n 1, 1) := by decide +kernel
theorem dX9_readsStatement_5 : decode cX9_readsStatement 5 = .ok (.aload_n 0, 1) := by decide +kernel
theorem dX9_readsStatement_6 : decode cX9_readsStatement 6 = .ok (.aload_n 0, 1) := by decide +kernel
theorem dX9_readsStatement_7 : decode cX9_readsStatement 7 = .ok (.getfield 239, 3) := by decide +kernel
theorem dX9_readsStatement_10 : decode cX9_readsStatement 10 = .ok (.ifCond .eq 25, 3) := by decide +kernel
theorem dX9_readsStatement_13 : decode cX9_readsStatement 13 = .ok (.iload_n 1, 1) := by decide +kernel
theorem dX9_readsStatement_14 : decode cX9_readsStatement 14 = .ok (.bipush 108, 2) := by decide +kernel
theorem dX9_readsStatement_16 : decode cX9_readsStatement 16 = .ok (.if_icmp .eq 15, 3) := by decide +kernel
theorem dX9_readsStatement_19 : decode cX9_readsStatement 19 = .ok (.iload_n 1, 1) := by decide +kernel
theorem dX9_readsStatement_20 : decode cX9_readsStatement 20 = .ok (.bipush 97, 2) := by decide +kernel
theorem dX9_readsStatement_22 : decode cX9_readsStatement 22 = .ok (.if_icmp .eq 9, 3) := by decide +kernel
theorem dX9_readsStatement_25 : decode cX9_readsStatement 25 = .ok (.iload_n 1, 1) := by decide +kernel
theorem dX9_readsStatement_26 : decode cX9_readsStatement 26 = .ok (.bipush 100, 2) := by decide +kernel
theorem dX9_readsStatement_28 : decode cX9_readsStatement 28 = .ok (.if_icmp .ne 7, 3) := by decide +kernel
theorem dX9_readsStatement_31 : decode cX9_readsStatement 31 = .ok (.iconst 1, 1) := by decide +kernel
theorem dX9_readsStatement_32 : decode cX9_readsStatement 32 = .ok (.goto 4, 3) := by decide +kernel
theorem dX9_readsStatement_35 : decode cX9_readsStatement 35 = .ok (.iconst 0, 1) := by decide +kernel
theorem dX9_readsStatement_36 : decode cX9_readsStatement 36 = .ok (.putfield 239, 3) := by decide +kernel
theorem dX9_readsStatement_39 : decode cX9_readsStatement 39 = .ok (.aload_n 0, 1) := by decide +kernel
theorem dX9_readsStatement_40 : decode cX9_readsStatement 40 = .ok (.dup, 1) := by decide +kernel
theorem dX9_readsStatement_41 : decode cX9_readsStatement 41 = .ok (.getfield 236, 3) := by decide +kernel
theorem dX9_readsStatement_44 : decode cX9_readsStatement 44 = .ok (.aload_n 0, 1) := by decide +kernel
theorem dX9_readsStatement_45 : decode cX9_readsStatement 45 = .ok (.getfield 239, 3) := by decide +kernel
theorem dX9_readsStatement_48 : decode cX9_readsStatement 48 = .ok (.ifCond .eq 7, 3) := by decide +kernel
theorem dX9_readsStatement_51 : decode cX9_readsStatement 51 = .ok (.iconst 1, 1) := by decide +kernel
theorem dX9_readsStatement_52 : decode cX9_readsStatement 52 = .ok (.goto 4, 3) := by decide +kernel
theorem dX9_readsStatement_55 : decode cX9_readsStatement 55 = .ok (.iconst 0, 1) := by decide +kernel
theorem dX9_readsStatement_56 : decode cX9_readsStatement 56 = .ok (.iadd, 1) := by decide +kernel
theorem dX9_readsStatement_57 : decode cX9_readsStatement 57 = .ok (.putfield 236, 3) := by decide +kernel
theorem dX9_readsStatement_60 : decode cX9_readsStatement 60 = .ok (.aload_n 0, 1) := by decide +kernel
theorem dX9_readsStatement_61 : decode cX9_readsStatement 61 = .ok (.bipush 48, 2) := by decide +kernel
theorem dX9_readsStatement_63 : decode cX9_readsStatement 63 = .ok (.bipush 51, 2) := by decide +kernel
theorem dX9_readsStatement_65 : decode cX9_readsStatement 65 = .ok (.invokevirtual 246, 3) := by decide +kernel
theorem dX9_readsStatement_68 : decode cX9_readsStatement 68 = .ok (.istore_n 2, 1) := by decide +kernel
theorem dX9_readsStatement_69 : decode cX9_readsStatement 69 = .ok (.aload_n 0, 1) := by decide +kernel
theorem dX9_readsStatement_70 : decode cX9_readsStatement 70 = .ok (.bipush 46, 2) := by decide +kernel
theorem dX9_readsStatement_72 : decode cX9_readsStatement 72 = .ok (.bipush 46, 2) := by decide +kernel
theorem dX9_readsStatement_74 : decode cX9_readsStatement 74 = .ok (.invokevirtual 246, 3) := by decide +kernel
theorem dX9_readsStatement_77 : decode cX9_readsStatement 77 = .ok (.pop, 1) := by decide +kernel
theorem dX9_readsStatement_78 : decode cX9_readsStatement 78 = .ok (.aload_n 0, 1) := by decide +kernel
theorem dX9_readsStatement_79 : decode cX9_readsStatement 79 = .ok (.iconst 2, 1) := by decide +kernel
theorem dX9_readsStatement_80 : decode cX9_readsStatement 80 = .ok (.invokevirtual 249, 3) := by decide +kernel
theorem dX9_readsStatement_83 : decode cX9_readsStatement 83 = .ok (.istore_n 3, 1) := by decide +kernel
theorem dX9_readsStatement_84 : decode cX9_readsStatement 84 = .ok (.iconst 0, 1) := by decide +kernel
theorem dX9_readsStatement_85 : decode cX9_readsStatement 85 = .ok (.istore 4, 2) := by decide +kernel
theorem dX9_readsStatement_87 : decode cX9_readsStatement 87 = .ok (.iload_n 1, 1) := by decide +kernel
theorem dX9_readsStatement_88 : decode cX9_readsStatement 88 = .ok (.bipush 100, 2) := by decide +kernel
theorem dX9_readsStatement_90 : decode cX9_readsStatement 90 = .ok (.if_icmp .eq 34, 3) := by decide +kernel
theorem dX9_readsStatement_93 : decode cX9_readsStatement 93 = .ok (.iload_n 1, 1) := by decide +kernel
theorem dX9_readsStatement_94 : decode cX9_readsStatement 94 = .ok (.bipush 108, 2) := by decide +kernel
theorem dX9_readsStatement_96 : decode cX9_readsStatement 96 = .ok (.if_icmp .ne 8, 3) := by decide +kernel
theorem dX9_readsStatement_99 : decode cX9_readsStatement 99 = .ok (.bipush 61, 2) := by decide +kernel
theorem dX9_readsStatement_101 : decode cX9_readsStatement 101 = .ok (.goto 5, 3) := by decide +kernel
theorem dX9_readsStatement_104 : decode cX9_readsStatement 104 = .ok (.bipush 43, 2) := by decide +kernel
theorem dX9_readsStatement_106 : decode cX9_readsStatement 106 = .ok (.istore 5, 2) := by decide +kernel
theorem dX9_readsStatement_108 : decode cX9_readsStatement 108 = .ok (.aload_n 0, 1) := by decide +kernel
theorem dX9_readsStatement_109 : decode cX9_readsStatement 109 = .ok (.iload 5, 2) := by decide +kernel
theorem dX9_readsStatement_111 : decode cX9_readsStatement 111 = .ok (.iload 5, 2) := by decide +kernel
theorem dX9_readsStatement_113 : decode cX9_readsStatement 113 = .ok (.invokevirtual 246, 3) := by decide +kernel
theorem dX9_readsStatement_116 : decode cX9_readsStatement 116 = .ok (.pop, 1) := by decide +kernel
theorem dX9_readsStatement_117 : decode cX9_readsStatement 117 = .ok (.aload_n 0, 1) := by decide +kernel
theorem dX9_readsStatement_118 : decode cX9_readsStatement 118 = .ok (.iconst 3, 1) := by decide +kernel
theorem dX9_readsStatement_119 : decode cX9_readsStatement 119 = .ok (.invokevirtual 249, 3) := by decide +kernel
theorem dX9_readsStatement_122 : decode cX9_readsStatement 122 = .ok (.istore 4, 2) := by decide +kernel
theorem dX9_readsStatement_124 : decode cX9_readsStatement 124 = .ok (.aload_n 0, 1) := by decide +kernel
theorem dX9_readsStatement_125 : decode cX9_readsStatement 125 = .ok (.getfield 239, 3) := by decide +kernel
theorem dX9_readsStatement_128 : decode cX9_readsStatement 128 = .ok (.ifCond .eq 88, 3) := by decide +kernel
theorem dX9_readsStatement_131 : decode cX9_readsStatement 131 = .ok (.aload_n 0, 1) := by decide +kernel
theorem dX9_readsStatement_132 : decode cX9_readsStatement 132 = .ok (.getfield 87, 3) := by decide +kernel
theorem dX9_readsStatement_135 : decode cX9_readsStatement 135 = .ok (.iconst 4, 1) := by decide +kernel
theorem dX9_readsStatement_136 : decode cX9_readsStatement 136 = .ok (.aload_n 0, 1) := by decide +kernel
theorem dX9_readsStatement_137 : decode cX9_readsStatement 137 = .ok (.getfield 252, 3) := by decide +kernel
theorem dX9_readsStatement_140 : decode cX9_readsStatement 140 = .ok (.imul, 1) := by decide +kernel
theorem dX9_readsStatement_141 : decode cX9_readsStatement 141 = .ok (.iload_n 1, 1) := by decide +kernel
theorem dX9_readsStatement_142 : decode cX9_readsStatement 142 = .ok (.bipush 108, 2) := by decide +kernel
theorem dX9_readsStatement_144 : decode cX9_readsStatement 144 = .ok (.if_icmp .ne 7, 3) := by decide +kernel
theorem dX9_readsStatement_147 : decode cX9_readsStatement 147 = .ok (.iconst 0, 1) := by decide +kernel
theorem dX9_readsStatement_148 : decode cX9_readsStatement 148 = .ok (.goto 14, 3) := by decide +kernel
theorem dX9_readsStatement_151 : decode cX9_readsStatement 151 = .ok (.iload_n 1, 1) := by decide +kernel
theorem dX9_readsStatement_152 : decode cX9_readsStatement 152 = .ok (.bipush 97, 2) := by decide +kernel
theorem dX9_readsStatement_154 : decode cX9_readsStatement 154 = .ok (.if_icmp .ne 7, 3) := by decide +kernel
theorem dX9_readsStatement_157 : decode cX9_readsStatement 157 = .ok (.iconst 1, 1) := by decide +kernel
theorem dX9_readsStatement_158 : decode cX9_readsStatement 158 = .ok (.goto 4, 3) := by decide +kernel
theorem dX9_readsStatement_161 : decode cX9_readsStatement 161 = .ok (.iconst 2, 1) := by decide +kernel
theorem dX9_readsStatement_162 : decode cX9_readsStatement 162 = .ok (.iastore, 1) := by decide +kernel
theorem dX9_readsStatement_163 : decode cX9_readsStatement 163 = .ok (.aload_n 0, 1) := by decide +kernel
theorem dX9_readsStatement_164 : decode cX9_readsStatement 164 = .ok (.getfield 87, 3) := by decide +kernel
theorem dX9_readsStatement_167 : decode cX9_readsStatement 167 = .ok (.iconst 4, 1) := by decide +kernel
theorem dX9_readsStatement_168 : decode cX9_readsStatement 168 = .ok (.aload_n 0, 1) := by decide +kernel
theorem dX9_readsStatement_169 : decode cX9_readsStatement 169 = .ok (.getfield 252, 3) := by decide +kernel
theorem dX9_readsStatement_172 : decode cX9_readsStatement 172 = .ok (.imul, 1) := by decide +kernel
theorem dX9_readsStatement_173 : decode cX9_readsStatement 173 = .ok (.iconst 1, 1) := by decide +kernel
theorem dX9_readsStatement_174 : decode cX9_readsStatement 174 = .ok (.iadd, 1) := by decide +kernel
theorem dX9_readsStatement_175 : decode cX9_readsStatement 175 = .ok (.iload_n 2, 1) := by decide +kernel
theorem dX9_readsStatement_176 : decode cX9_readsStatement 176 = .ok (.iastore, 1) := by decide +kernel
theorem dX9_readsStatement_177 : decode cX9_readsStatement 177 = .ok (.aload_n 0, 1) := by decide +kernel
theorem dX9_readsStatement_178 : decode cX9_readsStatement 178 = .ok (.getfield 87, 3) := by decide +kernel
theorem dX9_readsStatement_181 : decode cX9_readsStatement 181 = .ok (.iconst 4, 1) := by decide +kernel
theorem dX9_readsStatement_182 : decode cX9_readsStatement 182 = .ok (.aload_n 0, 1) := by decide +kernel
theorem dX9_readsStatement_183 : decode cX9_readsStatement 183 = .ok (.getfield 252, 3) := by decide +kernel
theorem dX9_readsStatement_186 : decode cX9_readsStatement 186 = .ok (.imul, 1) := by decide +kernel
theorem dX9_readsStatement_187 : decode cX9_readsStatement 187 = .ok (.iconst 2, 1) := by decide +kernel
theorem dX9_readsStatement_188 : decode cX9_readsStatement 188 = .ok (.iadd, 1) := by decide +kernel
theorem dX9_readsStatement_189 : decode cX9_readsStatement 189 = .ok (.iload_n 3, 1) := by decide +kernel
theorem dX9_readsStatement_190 : decode cX9_readsStatement 190 = .ok (.iastore, 1) := by decide +kernel
theorem dX9_readsStatement_191 : decode cX9_readsStatement 191 = .ok (.aload_n 0, 1) := by decide +kernel
theorem dX9_readsStatement_192 : decode cX9_readsStatement 192 = .ok (.getfield 87, 3) := by decide +kernel
theorem dX9_readsStatement_195 : decode cX9_readsStatement 195 = .ok (.iconst 4, 1) := by decide +kernel
theorem dX9_readsStatement_196 : decode cX9_readsStatement 196 = .ok (.aload_n 0, 1) := by decide +kernel
theorem dX9_readsStatement_197 : decode cX9_readsStatement 197 = .ok (.getfield 252, 3) := by decide +kernel
theorem dX9_readsStatement_200 : decode cX9_readsStatement 200 = .ok (.imul, 1) := by decide +kernel
theorem dX9_readsStatement_201 : decode cX9_readsStatement 201 = .ok (.iconst 3, 1) := by decide +kernel
theorem dX9_readsStatement_202 : decode cX9_readsStatement 202 = .ok (.iadd, 1) := by decide +kernel
theorem dX9_readsStatement_203 : decode cX9_readsStatement 203 = .ok (.iload 4, 2) := by decide +kernel
theorem dX9_readsStatement_205 : decode cX9_readsStatement 205 = .ok (.iastore, 1) := by decide +kernel
theorem dX9_readsStatement_206 : decode cX9_readsStatement 206 = .ok (.aload_n 0, 1) := by decide +kernel
theorem dX9_readsStatement_207 : decode cX9_readsStatement 207 = .ok (.dup, 1) := by decide +kernel
theorem dX9_readsStatement_208 : decode cX9_readsStatement 208 = .ok (.getfield 252, 3) := by decide +kernel
theorem dX9_readsStatement_211 : decode cX9_readsStatement 211 = .ok (.iconst 1, 1) := by decide +kernel
theorem dX9_readsStatement_212 : decode cX9_readsStatement 212 = .ok (.iadd, 1) := by decide +kernel
theorem dX9_readsStatement_213 : decode cX9_readsStatement 213 = .ok (.putfield 252, 3) := by decide +kernel
theorem dX9_readsStatement_216 : decode cX9_readsStatement 216 = .ok (.return_, 1) := by decide +kernel
theorem dX9_reads_0 : decode cX9_reads 0 = .ok (.aload_n 0, 1) := by decide +kernel
theorem dX9_reads_1 : decode cX9_reads 1 = .ok (.iconst 0, 1) := by decide +kernel
theorem dX9_reads_2 : decode cX9_reads 2 = .ok (.putfield 236, 3) := by decide +kernel
theorem dX9_reads_5 : decode cX9_reads 5 = .ok (.aload_n 0, 1) := by decide +kernel
theorem dX9_reads_6 : decode cX9_reads 6 = .ok (.iconst 1, 1) := by decide +kernel
theorem dX9_reads_7 : decode cX9_reads 7 = .ok (.putfield 239, 3) := by decide +kernel
theorem dX9_reads_10 : decode cX9_reads 10 = .ok (.aload_n 0, 1) := by decide +kernel
theorem dX9_reads_11 : decode cX9_reads 11 = .ok (.iconst 0, 1) := by decide +kernel
theorem dX9_reads_12 : decode cX9_reads 12 = .ok (.putfield 252, 3) := by decide +kernel
theorem dX9_reads_15 : decode cX9_reads 15 = .ok (.aload_n 0, 1) := by decide +kernel
theorem dX9_reads_16 : decode cX9_reads 16 = .ok (.invokevirtual 255, 3) := by decide +kernel
theorem dX9_reads_19 : decode cX9_reads 19 = .ok (.aload_n 0, 1) := by decide +kernel
theorem dX9_reads_20 : decode cX9_reads 20 = .ok (.getfield 239, 3) := by decide +kernel
theorem dX9_reads_23 : decode cX9_reads 23 = .ok (.ifCond .eq 37, 3) := by decide +kernel
theorem dX9_reads_26 : decode cX9_reads 26 = .ok (.aload_n 0, 1) := by decide +kernel
theorem dX9_reads_27 : decode cX9_reads 27 = .ok (.getfield 236, 3) := by decide +kernel
theorem dX9_reads_30 : decode cX9_reads 30 = .ok (.aload_n 0, 1) := by decide +kernel
theorem dX9_reads_31 : decode cX9_reads 31 = .ok (.getfield 231, 3) := by decide +kernel
theorem dX9_reads_34 : decode cX9_reads 34 = .ok (.if_icmp .ge 26, 3) := by decide +kernel
theorem dX9_reads_37 : decode cX9_reads 37 = .ok (.aload_n 0, 1) := by decide +kernel
theorem dX9_reads_38 : decode cX9_reads 38 = .ok (.bipush 59, 2) := by decide +kernel
theorem dX9_reads_40 : decode cX9_reads 40 = .ok (.bipush 59, 2) := by decide +kernel
theorem dX9_reads_42 : decode cX9_reads 42 = .ok (.invokevirtual 246, 3) := by decide +kernel
theorem dX9_reads_45 : decode cX9_reads 45 = .ok (.pop, 1) := by decide +kernel
theorem dX9_reads_46 : decode cX9_reads 46 = .ok (.aload_n 0, 1) := by decide +kernel
theorem dX9_reads_47 : decode cX9_reads 47 = .ok (.getfield 239, 3) := by decide +kernel
theorem dX9_reads_50 : decode cX9_reads 50 = .ok (.ifCond .eq (-31), 3) := by decide +kernel
theorem dX9_reads_53 : decode cX9_reads 53 = .ok (.aload_n 0, 1) := by decide +kernel
theorem dX9_reads_54 : decode cX9_reads 54 = .ok (.invokevirtual 255, 3) := by decide +kernel
theorem dX9_reads_57 : decode cX9_reads 57 = .ok (.goto (-38), 3) := by decide +kernel
theorem dX9_reads_60 : decode cX9_reads 60 = .ok (.aload_n 0, 1) := by decide +kernel
theorem dX9_reads_61 : decode cX9_reads 61 = .ok (.getfield 239, 3) := by decide +kernel
theorem dX9_reads_64 : decode cX9_reads 64 = .ok (.ifCond .eq 8, 3) := by decide +kernel
theorem dX9_reads_67 : decode cX9_reads 67 = .ok (.bipush (-6), 2) := by decide +kernel
theorem dX9_reads_69 : decode cX9_reads 69 = .ok (.goto 7, 3) := by decide +kernel
theorem dX9_reads_72 : decode cX9_reads 72 = .ok (.aload_n 0, 1) := by decide +kernel
theorem dX9_reads_73 : decode cX9_reads 73 = .ok (.getfield 236, 3) := by decide +kernel
theorem dX9_reads_76 : decode cX9_reads 76 = .ok (.ireturn, 1) := by decide +kernel
theorem dX9_fault_0 : decode cX9_fault 0 = .ok (.aload_n 0, 1) := by decide +kernel
theorem dX9_fault_1 : decode cX9_fault 1 = .ok (.iconst 0, 1) := by decide +kernel
theorem dX9_fault_2 : decode cX9_fault 2 = .ok (.putfield 90, 3) := by decide +kernel
theorem dX9_fault_5 : decode cX9_fault 5 = .ok (.aload_n 0, 1) := by decide +kernel
theorem dX9_fault_6 : decode cX9_fault 6 = .ok (.invokevirtual 258, 3) := by decide +kernel
theorem dX9_fault_9 : decode cX9_fault 9 = .ok (.ireturn, 1) := by decide +kernel
theorem dX9_carryOut_0 : decode cX9_carryOut 0 = .ok (.aload_n 0, 1) := by decide +kernel
theorem dX9_carryOut_1 : decode cX9_carryOut 1 = .ok (.iconst 0, 1) := by decide +kernel
theorem dX9_carryOut_2 : decode cX9_carryOut 2 = .ok (.putfield 90, 3) := by decide +kernel
theorem dX9_carryOut_5 : decode cX9_carryOut 5 = .ok (.aload_n 0, 1) := by decide +kernel
theorem dX9_carryOut_6 : decode cX9_carryOut 6 = .ok (.invokevirtual 258, 3) := by decide +kernel
theorem dX9_carryOut_9 : decode cX9_carryOut 9 = .ok (.bipush (-6), 2) := by decide +kernel
theorem dX9_carryOut_11 : decode cX9_carryOut 11 = .ok (.if_icmp .eq 6, 3) := by decide +kernel
theorem dX9_carryOut_14 : decode cX9_carryOut 14 = .ok (.bipush (-3), 2) := by decide +kernel
theorem dX9_carryOut_16 : decode cX9_carryOut 16 = .ok (.ireturn, 1) := by decide +kernel
theorem dX9_carryOut_17 : decode cX9_carryOut 17 = .ok (.aload_n 0, 1) := by decide +kernel
theorem dX9_carryOut_18 : decode cX9_carryOut 18 = .ok (.invokevirtual 205, 3) := by decide +kernel
theorem dX9_carryOut_21 : decode cX9_carryOut 21 = .ok (.iconst 0, 1) := by decide +kernel
theorem dX9_carryOut_22 : decode cX9_carryOut 22 = .ok (.istore_n 1, 1) := by decide +kernel
theorem dX9_carryOut_23 : decode cX9_carryOut 23 = .ok (.iload_n 1, 1) := by decide +kernel
theorem dX9_carryOut_24 : decode cX9_carryOut 24 = .ok (.aload_n 0, 1) := by decide +kernel
theorem dX9_carryOut_25 : decode cX9_carryOut 25 = .ok (.getfield 252, 3) := by decide +kernel
theorem dX9_carryOut_28 : decode cX9_carryOut 28 = .ok (.if_icmp .ge 54, 3) := by decide +kernel
theorem dX9_carryOut_31 : decode cX9_carryOut 31 = .ok (.aload_n 0, 1) := by decide +kernel
theorem dX9_carryOut_32 : decode cX9_carryOut 32 = .ok (.aload_n 0, 1) := by decide +kernel
theorem dX9_carryOut_33 : decode cX9_carryOut 33 = .ok (.getfield 87, 3) := by decide +kernel
theorem dX9_carryOut_36 : decode cX9_carryOut 36 = .ok (.iconst 4, 1) := by decide +kernel
theorem dX9_carryOut_37 : decode cX9_carryOut 37 = .ok (.iload_n 1, 1) := by decide +kernel
theorem dX9_carryOut_38 : decode cX9_carryOut 38 = .ok (.imul, 1) := by decide +kernel
theorem dX9_carryOut_39 : decode cX9_carryOut 39 = .ok (.iaload, 1) := by decide +kernel
theorem dX9_carryOut_40 : decode cX9_carryOut 40 = .ok (.aload_n 0, 1) := by decide +kernel
theorem dX9_carryOut_41 : decode cX9_carryOut 41 = .ok (.getfield 87, 3) := by decide +kernel
theorem dX9_carryOut_44 : decode cX9_carryOut 44 = .ok (.iconst 4, 1) := by decide +kernel
theorem dX9_carryOut_45 : decode cX9_carryOut 45 = .ok (.iload_n 1, 1) := by decide +kernel
theorem dX9_carryOut_46 : decode cX9_carryOut 46 = .ok (.imul, 1) := by decide +kernel
theorem dX9_carryOut_47 : decode cX9_carryOut 47 = .ok (.iconst 1, 1) := by decide +kernel
theorem dX9_carryOut_48 : decode cX9_carryOut 48 = .ok (.iadd, 1) := by decide +kernel
theorem dX9_carryOut_49 : decode cX9_carryOut 49 = .ok (.iaload, 1) := by decide +kernel
theorem dX9_carryOut_50 : decode cX9_carryOut 50 = .ok (.aload_n 0, 1) := by decide +kernel
theorem dX9_carryOut_51 : decode cX9_carryOut 51 = .ok (.getfield 87, 3) := by decide +kernel
theorem dX9_carryOut_54 : decode cX9_carryOut 54 = .ok (.iconst 4, 1) := by decide +kernel
theorem dX9_carryOut_55 : decode cX9_carryOut 55 = .ok (.iload_n 1, 1) := by decide +kernel
theorem dX9_carryOut_56 : decode cX9_carryOut 56 = .ok (.imul, 1) := by decide +kernel
theorem dX9_carryOut_57 : decode cX9_carryOut 57 = .ok (.iconst 2, 1) := by decide +kernel
theorem dX9_carryOut_58 : decode cX9_carryOut 58 = .ok (.iadd, 1) := by decide +kernel
theorem dX9_carryOut_59 : decode cX9_carryOut 59 = .ok (.iaload, 1) := by decide +kernel
theorem dX9_carryOut_60 : decode cX9_carryOut 60 = .ok (.aload_n 0, 1) := by decide +kernel
theorem dX9_carryOut_61 : decode cX9_carryOut 61 = .ok (.getfield 87, 3) := by decide +kernel
theorem dX9_carryOut_64 : decode cX9_carryOut 64 = .ok (.iconst 4, 1) := by decide +kernel
theorem dX9_carryOut_65 : decode cX9_carryOut 65 = .ok (.iload_n 1, 1) := by decide +kernel
theorem dX9_carryOut_66 : decode cX9_carryOut 66 = .ok (.imul, 1) := by decide +kernel
theorem dX9_carryOut_67 : decode cX9_carryOut 67 = .ok (.iconst 3, 1) := by decide +kernel
theorem dX9_carryOut_68 : decode cX9_carryOut 68 = .ok (.iadd, 1) := by decide +kernel
theorem dX9_carryOut_69 : decode cX9_carryOut 69 = .ok (.iaload, 1) := by decide +kernel
theorem dX9_carryOut_70 : decode cX9_carryOut 70 = .ok (.invokevirtual 218, 3) := by decide +kernel
theorem dX9_carryOut_73 : decode cX9_carryOut 73 = .ok (.ifCond .eq 9, 3) := by decide +kernel
theorem dX9_carryOut_76 : decode cX9_carryOut 76 = .ok (.iinc 1 1, 3) := by decide +kernel
theorem dX9_carryOut_79 : decode cX9_carryOut 79 = .ok (.goto (-56), 3) := by decide +kernel
theorem dX9_carryOut_82 : decode cX9_carryOut 82 = .ok (.aload_n 0, 1) := by decide +kernel
theorem dX9_carryOut_83 : decode cX9_carryOut 83 = .ok (.iconst 0, 1) := by decide +kernel
theorem dX9_carryOut_84 : decode cX9_carryOut 84 = .ok (.putfield 231, 3) := by decide +kernel
theorem dX9_carryOut_87 : decode cX9_carryOut 87 = .ok (.iload_n 1, 1) := by decide +kernel
theorem dX9_carryOut_88 : decode cX9_carryOut 88 = .ok (.ireturn, 1) := by decide +kernel
theorem dX9_undo_0 : decode cX9_undo 0 = .ok (.aload_n 0, 1) := by decide +kernel
theorem dX9_undo_1 : decode cX9_undo 1 = .ok (.iconst 0, 1) := by decide +kernel
theorem dX9_undo_2 : decode cX9_undo 2 = .ok (.putfield 90, 3) := by decide +kernel
theorem dX9_undo_5 : decode cX9_undo 5 = .ok (.aload_n 0, 1) := by decide +kernel
theorem dX9_undo_6 : decode cX9_undo 6 = .ok (.getfield 97, 3) := by decide +kernel
theorem dX9_undo_9 : decode cX9_undo 9 = .ok (.ifCond .ne 6, 3) := by decide +kernel
theorem dX9_undo_12 : decode cX9_undo 12 = .ok (.bipush (-5), 2) := by decide +kernel
theorem dX9_undo_14 : decode cX9_undo 14 = .ok (.ireturn, 1) := by decide +kernel
theorem dX9_undo_15 : decode cX9_undo 15 = .ok (.aload_n 0, 1) := by decide +kernel
theorem dX9_undo_16 : decode cX9_undo 16 = .ok (.dup, 1) := by decide +kernel
theorem dX9_undo_17 : decode cX9_undo 17 = .ok (.getfield 97, 3) := by decide +kernel
theorem dX9_undo_20 : decode cX9_undo 20 = .ok (.iconst 1, 1) := by decide +kernel
theorem dX9_undo_21 : decode cX9_undo 21 = .ok (.isub, 1) := by decide +kernel
theorem dX9_undo_22 : decode cX9_undo 22 = .ok (.putfield 97, 3) := by decide +kernel
theorem dX9_undo_25 : decode cX9_undo 25 = .ok (.iconst 0, 1) := by decide +kernel
theorem dX9_undo_26 : decode cX9_undo 26 = .ok (.istore_n 1, 1) := by decide +kernel
theorem dX9_undo_27 : decode cX9_undo 27 = .ok (.iload_n 1, 1) := by decide +kernel
theorem dX9_undo_28 : decode cX9_undo 28 = .ok (.sipush 800, 3) := by decide +kernel
theorem dX9_undo_31 : decode cX9_undo 31 = .ok (.if_icmp .ge 30, 3) := by decide +kernel
theorem dX9_undo_34 : decode cX9_undo 34 = .ok (.aload_n 0, 1) := by decide +kernel
theorem dX9_undo_35 : decode cX9_undo 35 = .ok (.getfield 7, 3) := by decide +kernel
theorem dX9_undo_38 : decode cX9_undo 38 = .ok (.iload_n 1, 1) := by decide +kernel
theorem dX9_undo_39 : decode cX9_undo 39 = .ok (.aload_n 0, 1) := by decide +kernel
theorem dX9_undo_40 : decode cX9_undo 40 = .ok (.getfield 16, 3) := by decide +kernel
theorem dX9_undo_43 : decode cX9_undo 43 = .ok (.sipush 800, 3) := by decide +kernel
theorem dX9_undo_46 : decode cX9_undo 46 = .ok (.aload_n 0, 1) := by decide +kernel
theorem dX9_undo_47 : decode cX9_undo 47 = .ok (.getfield 97, 3) := by decide +kernel
theorem dX9_undo_50 : decode cX9_undo 50 = .ok (.imul, 1) := by decide +kernel
theorem dX9_undo_51 : decode cX9_undo 51 = .ok (.iload_n 1, 1) := by decide +kernel
theorem dX9_undo_52 : decode cX9_undo 52 = .ok (.iadd, 1) := by decide +kernel
theorem dX9_undo_53 : decode cX9_undo 53 = .ok (.iaload, 1) := by decide +kernel
theorem dX9_undo_54 : decode cX9_undo 54 = .ok (.iastore, 1) := by decide +kernel
theorem dX9_undo_55 : decode cX9_undo 55 = .ok (.iinc 1 1, 3) := by decide +kernel
theorem dX9_undo_58 : decode cX9_undo 58 = .ok (.goto (-31), 3) := by decide +kernel
theorem dX9_undo_61 : decode cX9_undo 61 = .ok (.aload_n 0, 1) := by decide +kernel
theorem dX9_undo_62 : decode cX9_undo 62 = .ok (.getfield 97, 3) := by decide +kernel
theorem dX9_undo_65 : decode cX9_undo 65 = .ok (.ireturn, 1) := by decide +kernel
theorem dX9_save_0 : decode cX9_save 0 = .ok (.aload_n 0, 1) := by decide +kernel
theorem dX9_save_1 : decode cX9_save 1 = .ok (.iconst 0, 1) := by decide +kernel
theorem dX9_save_2 : decode cX9_save 2 = .ok (.putfield 90, 3) := by decide +kernel
theorem dX9_save_5 : decode cX9_save 5 = .ok (.iload_n 1, 1) := by decide +kernel
theorem dX9_save_6 : decode cX9_save 6 = .ok (.iconst 0, 1) := by decide +kernel
theorem dX9_save_7 : decode cX9_save 7 = .ok (.iconst 1, 1) := by decide +kernel
theorem dX9_save_8 : decode cX9_save 8 = .ok (.invokestatic 93, 3) := by decide +kernel
theorem dX9_save_11 : decode cX9_save 11 = .ok (.ifCond .ne 6, 3) := by decide +kernel
theorem dX9_save_14 : decode cX9_save 14 = .ok (.bipush (-2), 2) := by decide +kernel
theorem dX9_save_16 : decode cX9_save 16 = .ok (.ireturn, 1) := by decide +kernel
theorem dX9_save_17 : decode cX9_save 17 = .ok (.iconst 0, 1) := by decide +kernel
theorem dX9_save_18 : decode cX9_save 18 = .ok (.istore_n 2, 1) := by decide +kernel
theorem dX9_save_19 : decode cX9_save 19 = .ok (.iload_n 2, 1) := by decide +kernel
theorem dX9_save_20 : decode cX9_save 20 = .ok (.sipush 800, 3) := by decide +kernel
theorem dX9_save_23 : decode cX9_save 23 = .ok (.if_icmp .ge 27, 3) := by decide +kernel
theorem dX9_save_26 : decode cX9_save 26 = .ok (.aload_n 0, 1) := by decide +kernel
theorem dX9_save_27 : decode cX9_save 27 = .ok (.getfield 19, 3) := by decide +kernel
theorem dX9_save_30 : decode cX9_save 30 = .ok (.sipush 800, 3) := by decide +kernel
theorem dX9_save_33 : decode cX9_save 33 = .ok (.iload_n 1, 1) := by decide +kernel
theorem dX9_save_34 : decode cX9_save 34 = .ok (.imul, 1) := by decide +kernel
theorem dX9_save_35 : decode cX9_save 35 = .ok (.iload_n 2, 1) := by decide +kernel
theorem dX9_save_36 : decode cX9_save 36 = .ok (.iadd, 1) := by decide +kernel
theorem dX9_save_37 : decode cX9_save 37 = .ok (.aload_n 0, 1) := by decide +kernel
theorem dX9_save_38 : decode cX9_save 38 = .ok (.getfield 7, 3) := by decide +kernel
theorem dX9_save_41 : decode cX9_save 41 = .ok (.iload_n 2, 1) := by decide +kernel
theorem dX9_save_42 : decode cX9_save 42 = .ok (.iaload, 1) := by decide +kernel
theorem dX9_save_43 : decode cX9_save 43 = .ok (.iastore, 1) := by decide +kernel
theorem dX9_save_44 : decode cX9_save 44 = .ok (.iinc 2 1, 3) := by decide +kernel
theorem dX9_save_47 : decode cX9_save 47 = .ok (.goto (-28), 3) := by decide +kernel
theorem dX9_save_50 : decode cX9_save 50 = .ok (.aload_n 0, 1) := by decide +kernel
theorem dX9_save_51 : decode cX9_save 51 = .ok (.getfield 22, 3) := by decide +kernel
theorem dX9_save_54 : decode cX9_save 54 = .ok (.iload_n 1, 1) := by decide +kernel
theorem dX9_save_55 : decode cX9_save 55 = .ok (.iconst 1, 1) := by decide +kernel
theorem dX9_save_56 : decode cX9_save 56 = .ok (.bastore, 1) := by decide +kernel
theorem dX9_save_57 : decode cX9_save 57 = .ok (.aload_n 0, 1) := by decide +kernel
theorem dX9_save_58 : decode cX9_save 58 = .ok (.invokevirtual 261, 3) := by decide +kernel
theorem dX9_save_61 : decode cX9_save 61 = .ok (.ireturn, 1) := by decide +kernel
theorem dX9_restore_0 : decode cX9_restore 0 = .ok (.aload_n 0, 1) := by decide +kernel
theorem dX9_restore_1 : decode cX9_restore 1 = .ok (.iconst 0, 1) := by decide +kernel
theorem dX9_restore_2 : decode cX9_restore 2 = .ok (.putfield 90, 3) := by decide +kernel
theorem dX9_restore_5 : decode cX9_restore 5 = .ok (.iload_n 1, 1) := by decide +kernel
theorem dX9_restore_6 : decode cX9_restore 6 = .ok (.iconst 0, 1) := by decide +kernel
theorem dX9_restore_7 : decode cX9_restore 7 = .ok (.iconst 1, 1) := by decide +kernel
theorem dX9_restore_8 : decode cX9_restore 8 = .ok (.invokestatic 93, 3) := by decide +kernel
theorem dX9_restore_11 : decode cX9_restore 11 = .ok (.ifCond .ne 6, 3) := by decide +kernel
theorem dX9_restore_14 : decode cX9_restore 14 = .ok (.bipush (-2), 2) := by decide +kernel
theorem dX9_restore_16 : decode cX9_restore 16 = .ok (.ireturn, 1) := by decide +kernel
theorem dX9_restore_17 : decode cX9_restore 17 = .ok (.aload_n 0, 1) := by decide +kernel
theorem dX9_restore_18 : decode cX9_restore 18 = .ok (.getfield 22, 3) := by decide +kernel
theorem dX9_restore_21 : decode cX9_restore 21 = .ok (.iload_n 1, 1) := by decide +kernel
theorem dX9_restore_22 : decode cX9_restore 22 = .ok (.baload, 1) := by decide +kernel
theorem dX9_restore_23 : decode cX9_restore 23 = .ok (.ifCond .ne 6, 3) := by decide +kernel
theorem dX9_restore_26 : decode cX9_restore 26 = .ok (.bipush (-5), 2) := by decide +kernel
theorem dX9_restore_28 : decode cX9_restore 28 = .ok (.ireturn, 1) := by decide +kernel
theorem dX9_restore_29 : decode cX9_restore 29 = .ok (.aload_n 0, 1) := by decide +kernel
theorem dX9_restore_30 : decode cX9_restore 30 = .ok (.invokevirtual 205, 3) := by decide +kernel
theorem dX9_restore_33 : decode cX9_restore 33 = .ok (.iconst 0, 1) := by decide +kernel
theorem dX9_restore_34 : decode cX9_restore 34 = .ok (.istore_n 2, 1) := by decide +kernel
theorem dX9_restore_35 : decode cX9_restore 35 = .ok (.iload_n 2, 1) := by decide +kernel
theorem dX9_restore_36 : decode cX9_restore 36 = .ok (.sipush 800, 3) := by decide +kernel
theorem dX9_restore_39 : decode cX9_restore 39 = .ok (.if_icmp .ge 27, 3) := by decide +kernel
theorem dX9_restore_42 : decode cX9_restore 42 = .ok (.aload_n 0, 1) := by decide +kernel
theorem dX9_restore_43 : decode cX9_restore 43 = .ok (.getfield 7, 3) := by decide +kernel
theorem dX9_restore_46 : decode cX9_restore 46 = .ok (.iload_n 2, 1) := by decide +kernel
theorem dX9_restore_47 : decode cX9_restore 47 = .ok (.aload_n 0, 1) := by decide +kernel
theorem dX9_restore_48 : decode cX9_restore 48 = .ok (.getfield 19, 3) := by decide +kernel
theorem dX9_restore_51 : decode cX9_restore 51 = .ok (.sipush 800, 3) := by decide +kernel
theorem dX9_restore_54 : decode cX9_restore 54 = .ok (.iload_n 1, 1) := by decide +kernel
theorem dX9_restore_55 : decode cX9_restore 55 = .ok (.imul, 1) := by decide +kernel
theorem dX9_restore_56 : decode cX9_restore 56 = .ok (.iload_n 2, 1) := by decide +kernel
theorem dX9_restore_57 : decode cX9_restore 57 = .ok (.iadd, 1) := by decide +kernel
theorem dX9_restore_58 : decode cX9_restore 58 = .ok (.iaload, 1) := by decide +kernel
theorem dX9_restore_59 : decode cX9_restore 59 = .ok (.iastore, 1) := by decide +kernel
theorem dX9_restore_60 : decode cX9_restore 60 = .ok (.iinc 2 1, 3) := by decide +kernel
theorem dX9_restore_63 : decode cX9_restore 63 = .ok (.goto (-28), 3) := by decide +kernel
theorem dX9_restore_66 : decode cX9_restore 66 = .ok (.aload_n 0, 1) := by decide +kernel
theorem dX9_restore_67 : decode cX9_restore 67 = .ok (.invokevirtual 261, 3) := by decide +kernel
theorem dX9_restore_70 : decode cX9_restore 70 = .ok (.ireturn, 1) := by decide +kernel
theorem dL_law_0 : decode cL_law 0 = .ok (.new 7, 3) := by decide +kernel
theorem dL_law_3 : decode cL_law 3 = .ok (.dup, 1) := by decide +kernel
theorem dL_law_4 : decode cL_law 4 = .ok (.invokespecial 9, 3) := by decide +kernel
theorem dL_law_7 : decode cL_law 7 = .ok (.astore_n 1, 1) := by decide +kernel
theorem dL_law_8 : decode cL_law 8 = .ok (.new 10, 3) := by decide +kernel
theorem dL_law_11 : decode cL_law 11 = .ok (.dup, 1) := by decide +kernel
theorem dL_law_12 : decode cL_law 12 = .ok (.invokespecial 12, 3) := by decide +kernel
theorem dL_law_15 : decode cL_law 15 = .ok (.astore_n 2, 1) := by decide +kernel
theorem dL_law_16 : decode cL_law 16 = .ok (.iconst 0, 1) := by decide +kernel
theorem dL_law_17 : decode cL_law 17 = .ok (.istore_n 3, 1) := by decide +kernel
theorem dL_law_18 : decode cL_law 18 = .ok (.iload_n 3, 1) := by decide +kernel
theorem dL_law_19 : decode cL_law 19 = .ok (.aload_n 0, 1) := by decide +kernel
theorem dL_law_20 : decode cL_law 20 = .ok (.arraylength, 1) := by decide +kernel
theorem dL_law_21 : decode cL_law 21 = .ok (.bipush 6, 2) := by decide +kernel
theorem dL_law_23 : decode cL_law 23 = .ok (.isub, 1) := by decide +kernel
theorem dL_law_24 : decode cL_law 24 = .ok (.if_icmp .gt 820, 3) := by decide +kernel
theorem dL_law_27 : decode cL_law 27 = .ok (.aload_n 0, 1) := by decide +kernel
theorem dL_law_28 : decode cL_law 28 = .ok (.iload_n 3, 1) := by decide +kernel
theorem dL_law_29 : decode cL_law 29 = .ok (.iaload, 1) := by decide +kernel
theorem dL_law_30 : decode cL_law 30 = .ok (.bipush 31, 2) := by decide +kernel
theorem dL_law_32 : decode cL_law 32 = .ok (.iand, 1) := by decide +kernel
theorem dL_law_33 : decode cL_law 33 = .ok (.tableswitch 805 0 19 #[95, 128, 181, 244, 267, 320, 383, 426, 459, 492, 525, 548, 601, 654, 707, 720, 733, 746, 759, 782], 95) := by decide +kernel
theorem dL_law_128 : decode cL_law 128 = .ok (.aload_n 1, 1) := by decide +kernel
theorem dL_law_129 : decode cL_law 129 = .ok (.aload_n 0, 1) := by decide +kernel
theorem dL_law_130 : decode cL_law 130 = .ok (.iload_n 3, 1) := by decide +kernel
theorem dL_law_131 : decode cL_law 131 = .ok (.iconst 1, 1) := by decide +kernel
theorem dL_law_132 : decode cL_law 132 = .ok (.iadd, 1) := by decide +kernel
theorem dL_law_133 : decode cL_law 133 = .ok (.iaload, 1) := by decide +kernel
theorem dL_law_134 : decode cL_law 134 = .ok (.aload_n 0, 1) := by decide +kernel
theorem dL_law_135 : decode cL_law 135 = .ok (.iload_n 3, 1) := by decide +kernel
theorem dL_law_136 : decode cL_law 136 = .ok (.iconst 2, 1) := by decide +kernel
theorem dL_law_137 : decode cL_law 137 = .ok (.iadd, 1) := by decide +kernel
theorem dL_law_138 : decode cL_law 138 = .ok (.iaload, 1) := by decide +kernel
theorem dL_law_139 : decode cL_law 139 = .ok (.invokevirtual 13, 3) := by decide +kernel
theorem dL_law_142 : decode cL_law 142 = .ok (.aload_n 2, 1) := by decide +kernel
theorem dL_law_143 : decode cL_law 143 = .ok (.aload_n 0, 1) := by decide +kernel
theorem dL_law_144 : decode cL_law 144 = .ok (.iload_n 3, 1) := by decide +kernel
theorem dL_law_145 : decode cL_law 145 = .ok (.iconst 1, 1) := by decide +kernel
theorem dL_law_146 : decode cL_law 146 = .ok (.iadd, 1) := by decide +kernel
theorem dL_law_147 : decode cL_law 147 = .ok (.iaload, 1) := by decide +kernel
theorem dL_law_148 : decode cL_law 148 = .ok (.aload_n 0, 1) := by decide +kernel
theorem dL_law_149 : decode cL_law 149 = .ok (.iload_n 3, 1) := by decide +kernel
theorem dL_law_150 : decode cL_law 150 = .ok (.iconst 2, 1) := by decide +kernel
theorem dL_law_151 : decode cL_law 151 = .ok (.iadd, 1) := by decide +kernel
theorem dL_law_152 : decode cL_law 152 = .ok (.iaload, 1) := by decide +kernel
theorem dL_law_153 : decode cL_law 153 = .ok (.invokevirtual 17, 3) := by decide +kernel
theorem dL_law_156 : decode cL_law 156 = .ok (.if_icmp .eq 682, 3) := by decide +kernel
theorem dL_law_159 : decode cL_law 159 = .ok (.iconst 0, 1) := by decide +kernel
theorem dL_law_160 : decode cL_law 160 = .ok (.ireturn, 1) := by decide +kernel
theorem dL_law_161 : decode cL_law 161 = .ok (.aload_n 1, 1) := by decide +kernel
theorem dL_law_162 : decode cL_law 162 = .ok (.aload_n 0, 1) := by decide +kernel
theorem dL_law_163 : decode cL_law 163 = .ok (.iload_n 3, 1) := by decide +kernel
theorem dL_law_164 : decode cL_law 164 = .ok (.iconst 1, 1) := by decide +kernel
theorem dL_law_165 : decode cL_law 165 = .ok (.iadd, 1) := by decide +kernel
theorem dL_law_166 : decode cL_law 166 = .ok (.iaload, 1) := by decide +kernel
theorem dL_law_167 : decode cL_law 167 = .ok (.aload_n 0, 1) := by decide +kernel
theorem dL_law_168 : decode cL_law 168 = .ok (.iload_n 3, 1) := by decide +kernel
theorem dL_law_169 : decode cL_law 169 = .ok (.iconst 2, 1) := by decide +kernel
theorem dL_law_170 : decode cL_law 170 = .ok (.iadd, 1) := by decide +kernel
theorem dL_law_171 : decode cL_law 171 = .ok (.iaload, 1) := by decide +kernel
theorem dL_law_172 : decode cL_law 172 = .ok (.aload_n 0, 1) := by decide +kernel
theorem dL_law_173 : decode cL_law 173 = .ok (.iload_n 3, 1) := by decide +kernel
theorem dL_law_174 : decode cL_law 174 = .ok (.iconst 3, 1) := by decide +kernel
theorem dL_law_175 : decode cL_law 175 = .ok (.iadd, 1) := by decide +kernel
theorem dL_law_176 : decode cL_law 176 = .ok (.iaload, 1) := by decide +kernel
theorem dL_law_177 : decode cL_law 177 = .ok (.aload_n 0, 1) := by decide +kernel
theorem dL_law_178 : decode cL_law 178 = .ok (.iload_n 3, 1) := by decide +kernel
theorem dL_law_179 : decode cL_law 179 = .ok (.iconst 4, 1) := by decide +kernel
theorem dL_law_180 : decode cL_law 180 = .ok (.iadd, 1) := by decide +kernel
theorem dL_law_181 : decode cL_law 181 = .ok (.iaload, 1) := by decide +kernel
theorem dL_law_182 : decode cL_law 182 = .ok (.invokevirtual 18, 3) := by decide +kernel
theorem dL_law_185 : decode cL_law 185 = .ok (.aload_n 2, 1) := by decide +kernel
theorem dL_law_186 : decode cL_law 186 = .ok (.aload_n 0, 1) := by decide +kernel
theorem dL_law_187 : decode cL_law 187 = .ok (.iload_n 3, 1) := by decide +kernel
theorem dL_law_188 : decode cL_law 188 = .ok (.iconst 1, 1) := by decide +kernel
theorem dL_law_189 : decode cL_law 189 = .ok (.iadd, 1) := by decide +kernel
theorem dL_law_190 : decode cL_law 190 = .ok (.iaload, 1) := by decide +kernel
theorem dL_law_191 : decode cL_law 191 = .ok (.aload_n 0, 1) := by decide +kernel
theorem dL_law_192 : decode cL_law 192 = .ok (.iload_n 3, 1) := by decide +kernel
theorem dL_law_193 : decode cL_law 193 = .ok (.iconst 2, 1) := by decide +kernel
theorem dL_law_194 : decode cL_law 194 = .ok (.iadd, 1) := by decide +kernel
theorem dL_law_195 : decode cL_law 195 = .ok (.iaload, 1) := by decide +kernel
theorem dL_law_196 : decode cL_law 196 = .ok (.aload_n 0, 1) := by decide +kernel
theorem dL_law_197 : decode cL_law 197 = .ok (.iload_n 3, 1) := by decide +kernel
theorem dL_law_198 : decode cL_law 198 = .ok (.iconst 3, 1) := by decide +kernel
theorem dL_law_199 : decode cL_law 199 = .ok (.iadd, 1) := by decide +kernel
theorem dL_law_200 : decode cL_law 200 = .ok (.iaload, 1) := by decide +kernel
theorem dL_law_201 : decode cL_law 201 = .ok (.aload_n 0, 1) := by decide +kernel
theorem dL_law_202 : decode cL_law 202 = .ok (.iload_n 3, 1) := by decide +kernel
theorem dL_law_203 : decode cL_law 203 = .ok (.iconst 4, 1) := by decide +kernel
theorem dL_law_204 : decode cL_law 204 = .ok (.iadd, 1) := by decide +kernel
theorem dL_law_205 : decode cL_law 205 = .ok (.iaload, 1) := by decide +kernel
theorem dL_law_206 : decode cL_law 206 = .ok (.invokevirtual 22, 3) := by decide +kernel
theorem dL_law_209 : decode cL_law 209 = .ok (.if_icmp .eq 629, 3) := by decide +kernel
theorem dL_law_212 : decode cL_law 212 = .ok (.iconst 0, 1) := by decide +kernel
theorem dL_law_213 : decode cL_law 213 = .ok (.ireturn, 1) := by decide +kernel
theorem dL_law_214 : decode cL_law 214 = .ok (.aload_n 1, 1) := by decide +kernel
theorem dL_law_215 : decode cL_law 215 = .ok (.aload_n 0, 1) := by decide +kernel
theorem dL_law_216 : decode cL_law 216 = .ok (.iload_n 3, 1) := by decide +kernel
theorem dL_law_217 : decode cL_law 217 = .ok (.iconst 1, 1) := by decide +kernel
theorem dL_law_218 : decode cL_law 218 = .ok (.iadd, 1) := by decide +kernel
theorem dL_law_219 : decode cL_law 219 = .ok (.iaload, 1) := by decide +kernel
theorem dL_law_220 : decode cL_law 220 = .ok (.aload_n 0, 1) := by decide +kernel
theorem dL_law_221 : decode cL_law 221 = .ok (.iload_n 3, 1) := by decide +kernel
theorem dL_law_222 : decode cL_law 222 = .ok (.iconst 2, 1) := by decide +kernel
theorem dL_law_223 : decode cL_law 223 = .ok (.iadd, 1) := by decide +kernel
theorem dL_law_224 : decode cL_law 224 = .ok (.iaload, 1) := by decide +kernel
theorem dL_law_225 : decode cL_law 225 = .ok (.aload_n 0, 1) := by decide +kernel
theorem dL_law_226 : decode cL_law 226 = .ok (.iload_n 3, 1) := by decide +kernel
theorem dL_law_227 : decode cL_law 227 = .ok (.iconst 3, 1) := by decide +kernel
theorem dL_law_228 : decode cL_law 228 = .ok (.iadd, 1) := by decide +kernel
theorem dL_law_229 : decode cL_law 229 = .ok (.iaload, 1) := by decide +kernel
theorem dL_law_230 : decode cL_law 230 = .ok (.aload_n 0, 1) := by decide +kernel
theorem dL_law_231 : decode cL_law 231 = .ok (.iload_n 3, 1) := by decide +kernel
theorem dL_law_232 : decode cL_law 232 = .ok (.iconst 4, 1) := by decide +kernel
theorem dL_law_233 : decode cL_law 233 = .ok (.iadd, 1) := by decide +kernel
theorem dL_law_234 : decode cL_law 234 = .ok (.iaload, 1) := by decide +kernel
theorem dL_law_235 : decode cL_law 235 = .ok (.aload_n 0, 1) := by decide +kernel
theorem dL_law_236 : decode cL_law 236 = .ok (.iload_n 3, 1) := by decide +kernel
theorem dL_law_237 : decode cL_law 237 = .ok (.iconst 5, 1) := by decide +kernel
theorem dL_law_238 : decode cL_law 238 = .ok (.iadd, 1) := by decide +kernel
theorem dL_law_239 : decode cL_law 239 = .ok (.iaload, 1) := by decide +kernel
theorem dL_law_240 : decode cL_law 240 = .ok (.invokevirtual 23, 3) := by decide +kernel
theorem dL_law_243 : decode cL_law 243 = .ok (.aload_n 2, 1) := by decide +kernel
theorem dL_law_244 : decode cL_law 244 = .ok (.aload_n 0, 1) := by decide +kernel
theorem dL_law_245 : decode cL_law 245 = .ok (.iload_n 3, 1) := by decide +kernel
theorem dL_law_246 : decode cL_law 246 = .ok (.iconst 1, 1) := by decide +kernel
theorem dL_law_247 : decode cL_law 247 = .ok (.iadd, 1) := by decide +kernel
theorem dL_law_248 : decode cL_law 248 = .ok (.iaload, 1) := by decide +kernel
theorem dL_law_249 : decode cL_law 249 = .ok (.aload_n 0, 1) := by decide +kernel
theorem dL_law_250 : decode cL_law 250 = .ok (.iload_n 3, 1) := by decide +kernel
theorem dL_law_251 : decode cL_law 251 = .ok (.iconst 2, 1) := by decide +kernel
theorem dL_law_252 : decode cL_law 252 = .ok (.iadd, 1) := by decide +kernel
theorem dL_law_253 : decode cL_law 253 = .ok (.iaload, 1) := by decide +kernel
theorem dL_law_254 : decode cL_law 254 = .ok (.aload_n 0, 1) := by decide +kernel
theorem dL_law_255 : decode cL_law 255 = .ok (.iload_n 3, 1) := by decide +kernel
theorem dL_law_256 : decode cL_law 256 = .ok (.iconst 3, 1) := by decide +kernel
theorem dL_law_257 : decode cL_law 257 = .ok (.iadd, 1) := by decide +kernel
theorem dL_law_258 : decode cL_law 258 = .ok (.iaload, 1) := by decide +kernel
theorem dL_law_259 : decode cL_law 259 = .ok (.aload_n 0, 1) := by decide +kernel
theorem dL_law_260 : decode cL_law 260 = .ok (.iload_n 3, 1) := by decide +kernel
theorem dL_law_261 : decode cL_law 261 = .ok (.iconst 4, 1) := by decide +kernel
theorem dL_law_262 : decode cL_law 262 = .ok (.iadd, 1) := by decide +kernel
theorem dL_law_263 : decode cL_law 263 = .ok (.iaload, 1) := by decide +kernel
theorem dL_law_264 : decode cL_law 264 = .ok (.aload_n 0, 1) := by decide +kernel
theorem dL_law_265 : decode cL_law 265 = .ok (.iload_n 3, 1) := by decide +kernel
theorem dL_law_266 : decode cL_law 266 = .ok (.iconst 5, 1) := by decide +kernel
theorem dL_law_267 : decode cL_law 267 = .ok (.iadd, 1) := by decide +kernel
theorem dL_law_268 : decode cL_law 268 = .ok (.iaload, 1) := by decide +kernel
theorem dL_law_269 : decode cL_law 269 = .ok (.invokevirtual 27, 3) := by decide +kernel
theorem dL_law_272 : decode cL_law 272 = .ok (.if_icmp .eq 566, 3) := by decide +kernel
theorem dL_law_275 : decode cL_law 275 = .ok (.iconst 0, 1) := by decide +kernel
theorem dL_law_276 : decode cL_law 276 = .ok (.ireturn, 1) := by decide +kernel
theorem dL_law_277 : decode cL_law 277 = .ok (.aload_n 1, 1) := by decide +kernel
theorem dL_law_278 : decode cL_law 278 = .ok (.aload_n 0, 1) := by decide +kernel
theorem dL_law_279 : decode cL_law 279 = .ok (.iload_n 3, 1) := by decide +kernel
theorem dL_law_280 : decode cL_law 280 = .ok (.iconst 1, 1) := by decide +kernel
theorem dL_law_281 : decode cL_law 281 = .ok (.iadd, 1) := by decide +kernel
theorem dL_law_282 : decode cL_law 282 = .ok (.iaload, 1) := by decide +kernel
theorem dL_law_283 : decode cL_law 283 = .ok (.invokevirtual 28, 3) := by decide +kernel
theorem dL_law_286 : decode cL_law 286 = .ok (.aload_n 2, 1) := by decide +kernel
theorem dL_law_287 : decode cL_law 287 = .ok (.aload_n 0, 1) := by decide +kernel
theorem dL_law_288 : decode cL_law 288 = .ok (.iload_n 3, 1) := by decide +kernel
theorem dL_law_289 : decode cL_law 289 = .ok (.iconst 1, 1) := by decide +kernel
theorem dL_law_290 : decode cL_law 290 = .ok (.iadd, 1) := by decide +kernel
theorem dL_law_291 : decode cL_law 291 = .ok (.iaload, 1) := by decide +kernel
theorem dL_law_292 : decode cL_law 292 = .ok (.invokevirtual 32, 3) := by decide +kernel
theorem dL_law_295 : decode cL_law 295 = .ok (.if_icmp .eq 543, 3) := by decide +kernel
theorem dL_law_298 : decode cL_law 298 = .ok (.iconst 0, 1) := by decide +kernel
theorem dL_law_299 : decode cL_law 299 = .ok (.ireturn, 1) := by decide +kernel
theorem dL_law_300 : decode cL_law 300 = .ok (.aload_n 1, 1) := by decide +kernel
theorem dL_law_301 : decode cL_law 301 = .ok (.aload_n 0, 1) := by decide +kernel
theorem dL_law_302 : decode cL_law 302 = .ok (.iload_n 3, 1) := by decide +kernel
theorem dL_law_303 : decode cL_law 303 = .ok (.iconst 1, 1) := by decide +kernel
theorem dL_law_304 : decode cL_law 304 = .ok (.iadd, 1) := by decide +kernel
theorem dL_law_305 : decode cL_law 305 = .ok (.iaload, 1) := by decide +kernel
theorem dL_law_306 : decode cL_law 306 = .ok (.aload_n 0, 1) := by decide +kernel
theorem dL_law_307 : decode cL_law 307 = .ok (.iload_n 3, 1) := by decide +kernel
theorem dL_law_308 : decode cL_law 308 = .ok (.iconst 2, 1) := by decide +kernel
theorem dL_law_309 : decode cL_law 309 = .ok (.iadd, 1) := by decide +kernel
theorem dL_law_310 : decode cL_law 310 = .ok (.iaload, 1) := by decide +kernel
theorem dL_law_311 : decode cL_law 311 = .ok (.aload_n 0, 1) := by decide +kernel
theorem dL_law_312 : decode cL_law 312 = .ok (.iload_n 3, 1) := by decide +kernel
theorem dL_law_313 : decode cL_law 313 = .ok (.iconst 3, 1) := by decide +kernel
theorem dL_law_314 : decode cL_law 314 = .ok (.iadd, 1) := by decide +kernel
theorem dL_law_315 : decode cL_law 315 = .ok (.iaload, 1) := by decide +kernel
theorem dL_law_316 : decode cL_law 316 = .ok (.aload_n 0, 1) := by decide +kernel
theorem dL_law_317 : decode cL_law 317 = .ok (.iload_n 3, 1) := by decide +kernel
theorem dL_law_318 : decode cL_law 318 = .ok (.iconst 4, 1) := by decide +kernel
theorem dL_law_319 : decode cL_law 319 = .ok (.iadd, 1) := by decide +kernel
theorem dL_law_320 : decode cL_law 320 = .ok (.iaload, 1) := by decide +kernel
theorem dL_law_321 : decode cL_law 321 = .ok (.invokevirtual 33, 3) := by decide +kernel
theorem dL_law_324 : decode cL_law 324 = .ok (.aload_n 2, 1) := by decide +kernel
theorem dL_law_325 : decode cL_law 325 = .ok (.aload_n 0, 1) := by decide +kernel
theorem dL_law_326 : decode cL_law 326 = .ok (.iload_n 3, 1) := by decide +kernel
theorem dL_law_327 : decode cL_law 327 = .ok (.iconst 1, 1) := by decide +kernel
theorem dL_law_328 : decode cL_law 328 = .ok (.iadd, 1) := by decide +kernel
theorem dL_law_329 : decode cL_law 329 = .ok (.iaload, 1) := by decide +kernel
theorem dL_law_330 : decode cL_law 330 = .ok (.aload_n 0, 1) := by decide +kernel
theorem dL_law_331 : decode cL_law 331 = .ok (.iload_n 3, 1) := by decide +kernel
theorem dL_law_332 : decode cL_law 332 = .ok (.iconst 2, 1) := by decide +kernel
theorem dL_law_333 : decode cL_law 333 = .ok (.iadd, 1) := by decide +kernel
theorem dL_law_334 : decode cL_law 334 = .ok (.iaload, 1) := by decide +kernel
theorem dL_law_335 : decode cL_law 335 = .ok (.aload_n 0, 1) := by decide +kernel
theorem dL_law_336 : decode cL_law 336 = .ok (.iload_n 3, 1) := by decide +kernel
theorem dL_law_337 : decode cL_law 337 = .ok (.iconst 3, 1) := by decide +kernel
theorem dL_law_338 : decode cL_law 338 = .ok (.iadd, 1) := by decide +kernel
theorem dL_law_339 : decode cL_law 339 = .ok (.iaload, 1) := by decide +kernel
theorem dL_law_340 : decode cL_law 340 = .ok (.aload_n 0, 1) := by decide +kernel
theorem dL_law_341 : decode cL_law 341 = .ok (.iload_n 3, 1) := by decide +kernel
theorem dL_law_342 : decode cL_law 342 = .ok (.iconst 4, 1) := by decide +kernel
theorem dL_law_343 : decode cL_law 343 = .ok (.iadd, 1) := by decide +kernel
theorem dL_law_344 : decode cL_law 344 = .ok (.iaload, 1) := by decide +kernel
theorem dL_law_345 : decode cL_law 345 = .ok (.invokevirtual 36, 3) := by decide +kernel
theorem dL_law_348 : decode cL_law 348 = .ok (.if_icmp .eq 490, 3) := by decide +kernel
theorem dL_law_351 : decode cL_law 351 = .ok (.iconst 0, 1) := by decide +kernel
theorem dL_law_352 : decode cL_law 352 = .ok (.ireturn, 1) := by decide +kernel
theorem dL_law_353 : decode cL_law 353 = .ok (.aload_n 1, 1) := by decide +kernel
theorem dL_law_354 : decode cL_law 354 = .ok (.aload_n 0, 1) := by decide +kernel
theorem dL_law_355 : decode cL_law 355 = .ok (.iload_n 3, 1) := by decide +kernel
theorem dL_law_356 : decode cL_law 356 = .ok (.iconst 1, 1) := by decide +kernel
theorem dL_law_357 : decode cL_law 357 = .ok (.iadd, 1) := by decide +kernel
theorem dL_law_358 : decode cL_law 358 = .ok (.iaload, 1) := by decide +kernel
theorem dL_law_359 : decode cL_law 359 = .ok (.aload_n 0, 1) := by decide +kernel
theorem dL_law_360 : decode cL_law 360 = .ok (.iload_n 3, 1) := by decide +kernel
theorem dL_law_361 : decode cL_law 361 = .ok (.iconst 2, 1) := by decide +kernel
theorem dL_law_362 : decode cL_law 362 = .ok (.iadd, 1) := by decide +kernel
theorem dL_law_363 : decode cL_law 363 = .ok (.iaload, 1) := by decide +kernel
theorem dL_law_364 : decode cL_law 364 = .ok (.aload_n 0, 1) := by decide +kernel
theorem dL_law_365 : decode cL_law 365 = .ok (.iload_n 3, 1) := by decide +kernel
theorem dL_law_366 : decode cL_law 366 = .ok (.iconst 3, 1) := by decide +kernel
theorem dL_law_367 : decode cL_law 367 = .ok (.iadd, 1) := by decide +kernel
theorem dL_law_368 : decode cL_law 368 = .ok (.iaload, 1) := by decide +kernel
theorem dL_law_369 : decode cL_law 369 = .ok (.aload_n 0, 1) := by decide +kernel
theorem dL_law_370 : decode cL_law 370 = .ok (.iload_n 3, 1) := by decide +kernel
theorem dL_law_371 : decode cL_law 371 = .ok (.iconst 4, 1) := by decide +kernel
theorem dL_law_372 : decode cL_law 372 = .ok (.iadd, 1) := by decide +kernel
theorem dL_law_373 : decode cL_law 373 = .ok (.iaload, 1) := by decide +kernel
theorem dL_law_374 : decode cL_law 374 = .ok (.aload_n 0, 1) := by decide +kernel
theorem dL_law_375 : decode cL_law 375 = .ok (.iload_n 3, 1) := by decide +kernel
theorem dL_law_376 : decode cL_law 376 = .ok (.iconst 5, 1) := by decide +kernel
theorem dL_law_377 : decode cL_law 377 = .ok (.iadd, 1) := by decide +kernel
theorem dL_law_378 : decode cL_law 378 = .ok (.iaload, 1) := by decide +kernel
theorem dL_law_379 : decode cL_law 379 = .ok (.invokevirtual 37, 3) := by decide +kernel
theorem dL_law_382 : decode cL_law 382 = .ok (.aload_n 2, 1) := by decide +kernel
theorem dL_law_383 : decode cL_law 383 = .ok (.aload_n 0, 1) := by decide +kernel
theorem dL_law_384 : decode cL_law 384 = .ok (.iload_n 3, 1) := by decide +kernel
theorem dL_law_385 : decode cL_law 385 = .ok (.iconst 1, 1) := by decide +kernel
theorem dL_law_386 : decode cL_law 386 = .ok (.iadd, 1) := by decide +kernel
theorem dL_law_387 : decode cL_law 387 = .ok (.iaload, 1) := by decide +kernel
theorem dL_law_388 : decode cL_law 388 = .ok (.aload_n 0, 1) := by decide +kernel
theorem dL_law_389 : decode cL_law 389 = .ok (.iload_n 3, 1) := by decide +kernel
theorem dL_law_390 : decode cL_law 390 = .ok (.iconst 2, 1) := by decide +kernel
theorem dL_law_391 : decode cL_law 391 = .ok (.iadd, 1) := by decide +kernel
theorem dL_law_392 : decode cL_law 392 = .ok (.iaload, 1) := by decide +kernel
theorem dL_law_393 : decode cL_law 393 = .ok (.aload_n 0, 1) := by decide +kernel
theorem dL_law_394 : decode cL_law 394 = .ok (.iload_n 3, 1) := by decide +kernel
theorem dL_law_395 : decode cL_law 395 = .ok (.iconst 3, 1) := by decide +kernel
theorem dL_law_396 : decode cL_law 396 = .ok (.iadd, 1) := by decide +kernel
theorem dL_law_397 : decode cL_law 397 = .ok (.iaload, 1) := by decide +kernel
theorem dL_law_398 : decode cL_law 398 = .ok (.aload_n 0, 1) := by decide +kernel
theorem dL_law_399 : decode cL_law 399 = .ok (.iload_n 3, 1) := by decide +kernel
theorem dL_law_400 : decode cL_law 400 = .ok (.iconst 4, 1) := by decide +kernel
theorem dL_law_401 : decode cL_law 401 = .ok (.iadd, 1) := by decide +kernel
theorem dL_law_402 : decode cL_law 402 = .ok (.iaload, 1) := by decide +kernel
theorem dL_law_403 : decode cL_law 403 = .ok (.aload_n 0, 1) := by decide +kernel
theorem dL_law_404 : decode cL_law 404 = .ok (.iload_n 3, 1) := by decide +kernel
theorem dL_law_405 : decode cL_law 405 = .ok (.iconst 5, 1) := by decide +kernel
theorem dL_law_406 : decode cL_law 406 = .ok (.iadd, 1) := by decide +kernel
theorem dL_law_407 : decode cL_law 407 = .ok (.iaload, 1) := by decide +kernel
theorem dL_law_408 : decode cL_law 408 = .ok (.invokevirtual 40, 3) := by decide +kernel
theorem dL_law_411 : decode cL_law 411 = .ok (.if_icmp .eq 427, 3) := by decide +kernel
theorem dL_law_414 : decode cL_law 414 = .ok (.iconst 0, 1) := by decide +kernel
theorem dL_law_415 : decode cL_law 415 = .ok (.ireturn, 1) := by decide +kernel
theorem dL_law_416 : decode cL_law 416 = .ok (.aload_n 1, 1) := by decide +kernel
theorem dL_law_417 : decode cL_law 417 = .ok (.aload_n 0, 1) := by decide +kernel
theorem dL_law_418 : decode cL_law 418 = .ok (.iload_n 3, 1) := by decide +kernel
theorem dL_law_419 : decode cL_law 419 = .ok (.iconst 1, 1) := by decide +kernel
theorem dL_law_420 : decode cL_law 420 = .ok (.iadd, 1) := by decide +kernel
theorem dL_law_421 : decode cL_law 421 = .ok (.iaload, 1) := by decide +kernel
theorem dL_law_422 : decode cL_law 422 = .ok (.aload_n 0, 1) := by decide +kernel
theorem dL_law_423 : decode cL_law 423 = .ok (.iload_n 3, 1) := by decide +kernel
theorem dL_law_424 : decode cL_law 424 = .ok (.iconst 2, 1) := by decide +kernel
theorem dL_law_425 : decode cL_law 425 = .ok (.iadd, 1) := by decide +kernel
theorem dL_law_426 : decode cL_law 426 = .ok (.iaload, 1) := by decide +kernel
theorem dL_law_427 : decode cL_law 427 = .ok (.aload_n 0, 1) := by decide +kernel
theorem dL_law_428 : decode cL_law 428 = .ok (.iload_n 3, 1) := by decide +kernel
theorem dL_law_429 : decode cL_law 429 = .ok (.iconst 3, 1) := by decide +kernel
theorem dL_law_430 : decode cL_law 430 = .ok (.iadd, 1) := by decide +kernel
theorem dL_law_431 : decode cL_law 431 = .ok (.iaload, 1) := by decide +kernel
theorem dL_law_432 : decode cL_law 432 = .ok (.invokevirtual 41, 3) := by decide +kernel
theorem dL_law_435 : decode cL_law 435 = .ok (.aload_n 2, 1) := by decide +kernel
theorem dL_law_436 : decode cL_law 436 = .ok (.aload_n 0, 1) := by decide +kernel
theorem dL_law_437 : decode cL_law 437 = .ok (.iload_n 3, 1) := by decide +kernel
theorem dL_law_438 : decode cL_law 438 = .ok (.iconst 1, 1) := by decide +kernel
theorem dL_law_439 : decode cL_law 439 = .ok (.iadd, 1) := by decide +kernel
theorem dL_law_440 : decode cL_law 440 = .ok (.iaload, 1) := by decide +kernel
theorem dL_law_441 : decode cL_law 441 = .ok (.aload_n 0, 1) := by decide +kernel
theorem dL_law_442 : decode cL_law 442 = .ok (.iload_n 3, 1) := by decide +kernel
theorem dL_law_443 : decode cL_law 443 = .ok (.iconst 2, 1) := by decide +kernel
theorem dL_law_444 : decode cL_law 444 = .ok (.iadd, 1) := by decide +kernel
theorem dL_law_445 : decode cL_law 445 = .ok (.iaload, 1) := by decide +kernel
theorem dL_law_446 : decode cL_law 446 = .ok (.aload_n 0, 1) := by decide +kernel
theorem dL_law_447 : decode cL_law 447 = .ok (.iload_n 3, 1) := by decide +kernel
theorem dL_law_448 : decode cL_law 448 = .ok (.iconst 3, 1) := by decide +kernel
theorem dL_law_449 : decode cL_law 449 = .ok (.iadd, 1) := by decide +kernel
theorem dL_law_450 : decode cL_law 450 = .ok (.iaload, 1) := by decide +kernel
theorem dL_law_451 : decode cL_law 451 = .ok (.invokevirtual 45, 3) := by decide +kernel
theorem dL_law_454 : decode cL_law 454 = .ok (.if_icmp .eq 384, 3) := by decide +kernel
theorem dL_law_457 : decode cL_law 457 = .ok (.iconst 0, 1) := by decide +kernel
theorem dL_law_458 : decode cL_law 458 = .ok (.ireturn, 1) := by decide +kernel
theorem dL_law_459 : decode cL_law 459 = .ok (.aload_n 1, 1) := by decide +kernel
theorem dL_law_460 : decode cL_law 460 = .ok (.aload_n 0, 1) := by decide +kernel
theorem dL_law_461 : decode cL_law 461 = .ok (.iload_n 3, 1) := by decide +kernel
theorem dL_law_462 : decode cL_law 462 = .ok (.iconst 1, 1) := by decide +kernel
theorem dL_law_463 : decode cL_law 463 = .ok (.iadd, 1) := by decide +kernel
theorem dL_law_464 : decode cL_law 464 = .ok (.iaload, 1) := by decide +kernel
theorem dL_law_465 : decode cL_law 465 = .ok (.aload_n 0, 1) := by decide +kernel
theorem dL_law_466 : decode cL_law 466 = .ok (.iload_n 3, 1) := by decide +kernel
theorem dL_law_467 : decode cL_law 467 = .ok (.iconst 2, 1) := by decide +kernel
theorem dL_law_468 : decode cL_law 468 = .ok (.iadd, 1) := by decide +kernel
theorem dL_law_469 : decode cL_law 469 = .ok (.iaload, 1) := by decide +kernel
theorem dL_law_470 : decode cL_law 470 = .ok (.invokevirtual 46, 3) := by decide +kernel
theorem dL_law_473 : decode cL_law 473 = .ok (.aload_n 2, 1) := by decide +kernel
theorem dL_law_474 : decode cL_law 474 = .ok (.aload_n 0, 1) := by decide +kernel
theorem dL_law_475 : decode cL_law 475 = .ok (.iload_n 3, 1) := by decide +kernel
theorem dL_law_476 : decode cL_law 476 = .ok (.iconst 1, 1) := by decide +kernel
theorem dL_law_477 : decode cL_law 477 = .ok (.iadd, 1) := by decide +kernel
theorem dL_law_478 : decode cL_law 478 = .ok (.iaload, 1) := by decide +kernel
theorem dL_law_479 : decode cL_law 479 = .ok (.aload_n 0, 1) := by decide +kernel
theorem dL_law_480 : decode cL_law 480 = .ok (.iload_n 3, 1) := by decide +kernel
theorem dL_law_481 : decode cL_law 481 = .ok (.iconst 2, 1) := by decide +kernel
theorem dL_law_482 : decode cL_law 482 = .ok (.iadd, 1) := by decide +kernel
theorem dL_law_483 : decode cL_law 483 = .ok (.iaload, 1) := by decide +kernel
theorem dL_law_484 : decode cL_law 484 = .ok (.invokevirtual 49, 3) := by decide +kernel
theorem dL_law_487 : decode cL_law 487 = .ok (.if_icmp .eq 351, 3) := by decide +kernel
theorem dL_law_490 : decode cL_law 490 = .ok (.iconst 0, 1) := by decide +kernel
theorem dL_law_491 : decode cL_law 491 = .ok (.ireturn, 1) := by decide +kernel
theorem dL_law_492 : decode cL_law 492 = .ok (.aload_n 1, 1) := by decide +kernel
theorem dL_law_493 : decode cL_law 493 = .ok (.aload_n 0, 1) := by decide +kernel
theorem dL_law_494 : decode cL_law 494 = .ok (.iload_n 3, 1) := by decide +kernel
theorem dL_law_495 : decode cL_law 495 = .ok (.iconst 1, 1) := by decide +kernel
theorem dL_law_496 : decode cL_law 496 = .ok (.iadd, 1) := by decide +kernel
theorem dL_law_497 : decode cL_law 497 = .ok (.iaload, 1) := by decide +kernel
theorem dL_law_498 : decode cL_law 498 = .ok (.aload_n 0, 1) := by decide +kernel
theorem dL_law_499 : decode cL_law 499 = .ok (.iload_n 3, 1) := by decide +kernel
theorem dL_law_500 : decode cL_law 500 = .ok (.iconst 2, 1) := by decide +kernel
theorem dL_law_501 : decode cL_law 501 = .ok (.iadd, 1) := by decide +kernel
theorem dL_law_502 : decode cL_law 502 = .ok (.iaload, 1) := by decide +kernel
theorem dL_law_503 : decode cL_law 503 = .ok (.invokevirtual 50, 3) := by decide +kernel
theorem dL_law_506 : decode cL_law 506 = .ok (.aload_n 2, 1) := by decide +kernel
theorem dL_law_507 : decode cL_law 507 = .ok (.aload_n 0, 1) := by decide +kernel
theorem dL_law_508 : decode cL_law 508 = .ok (.iload_n 3, 1) := by decide +kernel
theorem dL_law_509 : decode cL_law 509 = .ok (.iconst 1, 1) := by decide +kernel
theorem dL_law_510 : decode cL_law 510 = .ok (.iadd, 1) := by decide +kernel
theorem dL_law_511 : decode cL_law 511 = .ok (.iaload, 1) := by decide +kernel
theorem dL_law_512 : decode cL_law 512 = .ok (.aload_n 0, 1) := by decide +kernel
theorem dL_law_513 : decode cL_law 513 = .ok (.iload_n 3, 1) := by decide +kernel
theorem dL_law_514 : decode cL_law 514 = .ok (.iconst 2, 1) := by decide +kernel
theorem dL_law_515 : decode cL_law 515 = .ok (.iadd, 1) := by decide +kernel
theorem dL_law_516 : decode cL_law 516 = .ok (.iaload, 1) := by decide +kernel
theorem dL_law_517 : decode cL_law 517 = .ok (.invokevirtual 53, 3) := by decide +kernel
theorem dL_law_520 : decode cL_law 520 = .ok (.if_icmp .eq 318, 3) := by decide +kernel
theorem dL_law_523 : decode cL_law 523 = .ok (.iconst 0, 1) := by decide +kernel
theorem dL_law_524 : decode cL_law 524 = .ok (.ireturn, 1) := by decide +kernel
theorem dL_law_525 : decode cL_law 525 = .ok (.aload_n 1, 1) := by decide +kernel
theorem dL_law_526 : decode cL_law 526 = .ok (.aload_n 0, 1) := by decide +kernel
theorem dL_law_527 : decode cL_law 527 = .ok (.iload_n 3, 1) := by decide +kernel
theorem dL_law_528 : decode cL_law 528 = .ok (.iconst 1, 1) := by decide +kernel
theorem dL_law_529 : decode cL_law 529 = .ok (.iadd, 1) := by decide +kernel
theorem dL_law_530 : decode cL_law 530 = .ok (.iaload, 1) := by decide +kernel
theorem dL_law_531 : decode cL_law 531 = .ok (.aload_n 0, 1) := by decide +kernel
theorem dL_law_532 : decode cL_law 532 = .ok (.iload_n 3, 1) := by decide +kernel
theorem dL_law_533 : decode cL_law 533 = .ok (.iconst 2, 1) := by decide +kernel
theorem dL_law_534 : decode cL_law 534 = .ok (.iadd, 1) := by decide +kernel
theorem dL_law_535 : decode cL_law 535 = .ok (.iaload, 1) := by decide +kernel
theorem dL_law_536 : decode cL_law 536 = .ok (.invokevirtual 54, 3) := by decide +kernel
theorem dL_law_539 : decode cL_law 539 = .ok (.aload_n 2, 1) := by decide +kernel
theorem dL_law_540 : decode cL_law 540 = .ok (.aload_n 0, 1) := by decide +kernel
theorem dL_law_541 : decode cL_law 541 = .ok (.iload_n 3, 1) := by decide +kernel
theorem dL_law_542 : decode cL_law 542 = .ok (.iconst 1, 1) := by decide +kernel
theorem dL_law_543 : decode cL_law 543 = .ok (.iadd, 1) := by decide +kernel
theorem dL_law_544 : decode cL_law 544 = .ok (.iaload, 1) := by decide +kernel
theorem dL_law_545 : decode cL_law 545 = .ok (.aload_n 0, 1) := by decide +kernel
theorem dL_law_546 : decode cL_law 546 = .ok (.iload_n 3, 1) := by decide +kernel
theorem dL_law_547 : decode cL_law 547 = .ok (.iconst 2, 1) := by decide +kernel
theorem dL_law_548 : decode cL_law 548 = .ok (.iadd, 1) := by decide +kernel
theorem dL_law_549 : decode cL_law 549 = .ok (.iaload, 1) := by decide +kernel
theorem dL_law_550 : decode cL_law 550 = .ok (.invokevirtual 57, 3) := by decide +kernel
theorem dL_law_553 : decode cL_law 553 = .ok (.if_icmp .eq 285, 3) := by decide +kernel
theorem dL_law_556 : decode cL_law 556 = .ok (.iconst 0, 1) := by decide +kernel
theorem dL_law_557 : decode cL_law 557 = .ok (.ireturn, 1) := by decide +kernel
theorem dL_law_558 : decode cL_law 558 = .ok (.aload_n 1, 1) := by decide +kernel
theorem dL_law_559 : decode cL_law 559 = .ok (.aload_n 0, 1) := by decide +kernel
theorem dL_law_560 : decode cL_law 560 = .ok (.iload_n 3, 1) := by decide +kernel
theorem dL_law_561 : decode cL_law 561 = .ok (.iconst 1, 1) := by decide +kernel
theorem dL_law_562 : decode cL_law 562 = .ok (.iadd, 1) := by decide +kernel
theorem dL_law_563 : decode cL_law 563 = .ok (.iaload, 1) := by decide +kernel
theorem dL_law_564 : decode cL_law 564 = .ok (.invokevirtual 58, 3) := by decide +kernel
theorem dL_law_567 : decode cL_law 567 = .ok (.aload_n 2, 1) := by decide +kernel
theorem dL_law_568 : decode cL_law 568 = .ok (.aload_n 0, 1) := by decide +kernel
theorem dL_law_569 : decode cL_law 569 = .ok (.iload_n 3, 1) := by decide +kernel
theorem dL_law_570 : decode cL_law 570 = .ok (.iconst 1, 1) := by decide +kernel
theorem dL_law_571 : decode cL_law 571 = .ok (.iadd, 1) := by decide +kernel
theorem dL_law_572 : decode cL_law 572 = .ok (.iaload, 1) := by decide +kernel
theorem dL_law_573 : decode cL_law 573 = .ok (.invokevirtual 61, 3) := by decide +kernel
theorem dL_law_576 : decode cL_law 576 = .ok (.if_icmp .eq 262, 3) := by decide +kernel
theorem dL_law_579 : decode cL_law 579 = .ok (.iconst 0, 1) := by decide +kernel
theorem dL_law_580 : decode cL_law 580 = .ok (.ireturn, 1) := by decide +kernel
theorem dL_law_581 : decode cL_law 581 = .ok (.aload_n 1, 1) := by decide +kernel
theorem dL_law_582 : decode cL_law 582 = .ok (.aload_n 0, 1) := by decide +kernel
theorem dL_law_583 : decode cL_law 583 = .ok (.iload_n 3, 1) := by decide +kernel
theorem dL_law_584 : decode cL_law 584 = .ok (.iconst 1, 1) := by decide +kernel
theorem dL_law_585 : decode cL_law 585 = .ok (.iadd, 1) := by decide +kernel
theorem dL_law_586 : decode cL_law 586 = .ok (.iaload, 1) := by decide +kernel
theorem dL_law_587 : decode cL_law 587 = .ok (.aload_n 0, 1) := by decide +kernel
theorem dL_law_588 : decode cL_law 588 = .ok (.iload_n 3, 1) := by decide +kernel
theorem dL_law_589 : decode cL_law 589 = .ok (.iconst 2, 1) := by decide +kernel
theorem dL_law_590 : decode cL_law 590 = .ok (.iadd, 1) := by decide +kernel
theorem dL_law_591 : decode cL_law 591 = .ok (.iaload, 1) := by decide +kernel
theorem dL_law_592 : decode cL_law 592 = .ok (.aload_n 0, 1) := by decide +kernel
theorem dL_law_593 : decode cL_law 593 = .ok (.iload_n 3, 1) := by decide +kernel
theorem dL_law_594 : decode cL_law 594 = .ok (.iconst 3, 1) := by decide +kernel
theorem dL_law_595 : decode cL_law 595 = .ok (.iadd, 1) := by decide +kernel
theorem dL_law_596 : decode cL_law 596 = .ok (.iaload, 1) := by decide +kernel
theorem dL_law_597 : decode cL_law 597 = .ok (.aload_n 0, 1) := by decide +kernel
theorem dL_law_598 : decode cL_law 598 = .ok (.iload_n 3, 1) := by decide +kernel
theorem dL_law_599 : decode cL_law 599 = .ok (.iconst 4, 1) := by decide +kernel
theorem dL_law_600 : decode cL_law 600 = .ok (.iadd, 1) := by decide +kernel
theorem dL_law_601 : decode cL_law 601 = .ok (.iaload, 1) := by decide +kernel
theorem dL_law_602 : decode cL_law 602 = .ok (.invokevirtual 62, 3) := by decide +kernel
theorem dL_law_605 : decode cL_law 605 = .ok (.aload_n 2, 1) := by decide +kernel
theorem dL_law_606 : decode cL_law 606 = .ok (.aload_n 0, 1) := by decide +kernel
theorem dL_law_607 : decode cL_law 607 = .ok (.iload_n 3, 1) := by decide +kernel
theorem dL_law_608 : decode cL_law 608 = .ok (.iconst 1, 1) := by decide +kernel
theorem dL_law_609 : decode cL_law 609 = .ok (.iadd, 1) := by decide +kernel
theorem dL_law_610 : decode cL_law 610 = .ok (.iaload, 1) := by decide +kernel
theorem dL_law_611 : decode cL_law 611 = .ok (.aload_n 0, 1) := by decide +kernel
theorem dL_law_612 : decode cL_law 612 = .ok (.iload_n 3, 1) := by decide +kernel
theorem dL_law_613 : decode cL_law 613 = .ok (.iconst 2, 1) := by decide +kernel
theorem dL_law_614 : decode cL_law 614 = .ok (.iadd, 1) := by decide +kernel
theorem dL_law_615 : decode cL_law 615 = .ok (.iaload, 1) := by decide +kernel
theorem dL_law_616 : decode cL_law 616 = .ok (.aload_n 0, 1) := by decide +kernel
theorem dL_law_617 : decode cL_law 617 = .ok (.iload_n 3, 1) := by decide +kernel
theorem dL_law_618 : decode cL_law 618 = .ok (.iconst 3, 1) := by decide +kernel
theorem dL_law_619 : decode cL_law 619 = .ok (.iadd, 1) := by decide +kernel
theorem dL_law_620 : decode cL_law 620 = .ok (.iaload, 1) := by decide +kernel
theorem dL_law_621 : decode cL_law 621 = .ok (.aload_n 0, 1) := by decide +kernel
theorem dL_law_622 : decode cL_law 622 = .ok (.iload_n 3, 1) := by decide +kernel
theorem dL_law_623 : decode cL_law 623 = .ok (.iconst 4, 1) := by decide +kernel
theorem dL_law_624 : decode cL_law 624 = .ok (.iadd, 1) := by decide +kernel
theorem dL_law_625 : decode cL_law 625 = .ok (.iaload, 1) := by decide +kernel
theorem dL_law_626 : decode cL_law 626 = .ok (.invokevirtual 65, 3) := by decide +kernel
theorem dL_law_629 : decode cL_law 629 = .ok (.if_icmp .eq 209, 3) := by decide +kernel
theorem dL_law_632 : decode cL_law 632 = .ok (.iconst 0, 1) := by decide +kernel
theorem dL_law_633 : decode cL_law 633 = .ok (.ireturn, 1) := by decide +kernel
theorem dL_law_634 : decode cL_law 634 = .ok (.aload_n 1, 1) := by decide +kernel
theorem dL_law_635 : decode cL_law 635 = .ok (.aload_n 0, 1) := by decide +kernel
theorem dL_law_636 : decode cL_law 636 = .ok (.iload_n 3, 1) := by decide +kernel
theorem dL_law_637 : decode cL_law 637 = .ok (.iconst 1, 1) := by decide +kernel
theorem dL_law_638 : decode cL_law 638 = .ok (.iadd, 1) := by decide +kernel
theorem dL_law_639 : decode cL_law 639 = .ok (.iaload, 1) := by decide +kernel
theorem dL_law_640 : decode cL_law 640 = .ok (.aload_n 0, 1) := by decide +kernel
theorem dL_law_641 : decode cL_law 641 = .ok (.iload_n 3, 1) := by decide +kernel
theorem dL_law_642 : decode cL_law 642 = .ok (.iconst 2, 1) := by decide +kernel
theorem dL_law_643 : decode cL_law 643 = .ok (.iadd, 1) := by decide +kernel
theorem dL_law_644 : decode cL_law 644 = .ok (.iaload, 1) := by decide +kernel
theorem dL_law_645 : decode cL_law 645 = .ok (.aload_n 0, 1) := by decide +kernel
theorem dL_law_646 : decode cL_law 646 = .ok (.iload_n 3, 1) := by decide +kernel
theorem dL_law_647 : decode cL_law 647 = .ok (.iconst 3, 1) := by decide +kernel
theorem dL_law_648 : decode cL_law 648 = .ok (.iadd, 1) := by decide +kernel
theorem dL_law_649 : decode cL_law 649 = .ok (.iaload, 1) := by decide +kernel
theorem dL_law_650 : decode cL_law 650 = .ok (.aload_n 0, 1) := by decide +kernel
theorem dL_law_651 : decode cL_law 651 = .ok (.iload_n 3, 1) := by decide +kernel
theorem dL_law_652 : decode cL_law 652 = .ok (.iconst 4, 1) := by decide +kernel
theorem dL_law_653 : decode cL_law 653 = .ok (.iadd, 1) := by decide +kernel
theorem dL_law_654 : decode cL_law 654 = .ok (.iaload, 1) := by decide +kernel
theorem dL_law_655 : decode cL_law 655 = .ok (.invokevirtual 66, 3) := by decide +kernel
theorem dL_law_658 : decode cL_law 658 = .ok (.aload_n 2, 1) := by decide +kernel
theorem dL_law_659 : decode cL_law 659 = .ok (.aload_n 0, 1) := by decide +kernel
theorem dL_law_660 : decode cL_law 660 = .ok (.iload_n 3, 1) := by decide +kernel
theorem dL_law_661 : decode cL_law 661 = .ok (.iconst 1, 1) := by decide +kernel
theorem dL_law_662 : decode cL_law 662 = .ok (.iadd, 1) := by decide +kernel
theorem dL_law_663 : decode cL_law 663 = .ok (.iaload, 1) := by decide +kernel
theorem dL_law_664 : decode cL_law 664 = .ok (.aload_n 0, 1) := by decide +kernel
theorem dL_law_665 : decode cL_law 665 = .ok (.iload_n 3, 1) := by decide +kernel
theorem dL_law_666 : decode cL_law 666 = .ok (.iconst 2, 1) := by decide +kernel
theorem dL_law_667 : decode cL_law 667 = .ok (.iadd, 1) := by decide +kernel
theorem dL_law_668 : decode cL_law 668 = .ok (.iaload, 1) := by decide +kernel
theorem dL_law_669 : decode cL_law 669 = .ok (.aload_n 0, 1) := by decide +kernel
theorem dL_law_670 : decode cL_law 670 = .ok (.iload_n 3, 1) := by decide +kernel
theorem dL_law_671 : decode cL_law 671 = .ok (.iconst 3, 1) := by decide +kernel
theorem dL_law_672 : decode cL_law 672 = .ok (.iadd, 1) := by decide +kernel
theorem dL_law_673 : decode cL_law 673 = .ok (.iaload, 1) := by decide +kernel
theorem dL_law_674 : decode cL_law 674 = .ok (.aload_n 0, 1) := by decide +kernel
theorem dL_law_675 : decode cL_law 675 = .ok (.iload_n 3, 1) := by decide +kernel
theorem dL_law_676 : decode cL_law 676 = .ok (.iconst 4, 1) := by decide +kernel
theorem dL_law_677 : decode cL_law 677 = .ok (.iadd, 1) := by decide +kernel
theorem dL_law_678 : decode cL_law 678 = .ok (.iaload, 1) := by decide +kernel
theorem dL_law_679 : decode cL_law 679 = .ok (.invokevirtual 69, 3) := by decide +kernel
theorem dL_law_682 : decode cL_law 682 = .ok (.if_icmp .eq 156, 3) := by decide +kernel
theorem dL_law_685 : decode cL_law 685 = .ok (.iconst 0, 1) := by decide +kernel
theorem dL_law_686 : decode cL_law 686 = .ok (.ireturn, 1) := by decide +kernel
theorem dL_law_687 : decode cL_law 687 = .ok (.aload_n 1, 1) := by decide +kernel
theorem dL_law_688 : decode cL_law 688 = .ok (.aload_n 0, 1) := by decide +kernel
theorem dL_law_689 : decode cL_law 689 = .ok (.iload_n 3, 1) := by decide +kernel
theorem dL_law_690 : decode cL_law 690 = .ok (.iconst 1, 1) := by decide +kernel
theorem dL_law_691 : decode cL_law 691 = .ok (.iadd, 1) := by decide +kernel
theorem dL_law_692 : decode cL_law 692 = .ok (.iaload, 1) := by decide +kernel
theorem dL_law_693 : decode cL_law 693 = .ok (.i2l, 1) := by decide +kernel
theorem dL_law_694 : decode cL_law 694 = .ok (.bipush 32, 2) := by decide +kernel
theorem dL_law_696 : decode cL_law 696 = .ok (.lshl, 1) := by decide +kernel
theorem dL_law_697 : decode cL_law 697 = .ok (.aload_n 0, 1) := by decide +kernel
theorem dL_law_698 : decode cL_law 698 = .ok (.iload_n 3, 1) := by decide +kernel
theorem dL_law_699 : decode cL_law 699 = .ok (.iconst 2, 1) := by decide +kernel
theorem dL_law_700 : decode cL_law 700 = .ok (.iadd, 1) := by decide +kernel
theorem dL_law_701 : decode cL_law 701 = .ok (.iaload, 1) := by decide +kernel
theorem dL_law_702 : decode cL_law 702 = .ok (.i2l, 1) := by decide +kernel
theorem dL_law_703 : decode cL_law 703 = .ok (.ldc2_w 70, 3) := by decide +kernel
theorem dL_law_706 : decode cL_law 706 = .ok (.land, 1) := by decide +kernel
theorem dL_law_707 : decode cL_law 707 = .ok (.lor, 1) := by decide +kernel
theorem dL_law_708 : decode cL_law 708 = .ok (.invokevirtual 72, 3) := by decide +kernel
theorem dL_law_711 : decode cL_law 711 = .ok (.aload_n 2, 1) := by decide +kernel
theorem dL_law_712 : decode cL_law 712 = .ok (.aload_n 0, 1) := by decide +kernel
theorem dL_law_713 : decode cL_law 713 = .ok (.iload_n 3, 1) := by decide +kernel
theorem dL_law_714 : decode cL_law 714 = .ok (.iconst 1, 1) := by decide +kernel
theorem dL_law_715 : decode cL_law 715 = .ok (.iadd, 1) := by decide +kernel
theorem dL_law_716 : decode cL_law 716 = .ok (.iaload, 1) := by decide +kernel
theorem dL_law_717 : decode cL_law 717 = .ok (.i2l, 1) := by decide +kernel
theorem dL_law_718 : decode cL_law 718 = .ok (.bipush 32, 2) := by decide +kernel
theorem dL_law_720 : decode cL_law 720 = .ok (.lshl, 1) := by decide +kernel
theorem dL_law_721 : decode cL_law 721 = .ok (.aload_n 0, 1) := by decide +kernel
theorem dL_law_722 : decode cL_law 722 = .ok (.iload_n 3, 1) := by decide +kernel
theorem dL_law_723 : decode cL_law 723 = .ok (.iconst 2, 1) := by decide +kernel
theorem dL_law_724 : decode cL_law 724 = .ok (.iadd, 1) := by decide +kernel
theorem dL_law_725 : decode cL_law 725 = .ok (.iaload, 1) := by decide +kernel
theorem dL_law_726 : decode cL_law 726 = .ok (.i2l, 1) := by decide +kernel
theorem dL_law_727 : decode cL_law 727 = .ok (.ldc2_w 70, 3) := by decide +kernel
theorem dL_law_730 : decode cL_law 730 = .ok (.land, 1) := by decide +kernel
theorem dL_law_731 : decode cL_law 731 = .ok (.lor, 1) := by decide +kernel
theorem dL_law_732 : decode cL_law 732 = .ok (.invokevirtual 76, 3) := by decide +kernel
theorem dL_law_735 : decode cL_law 735 = .ok (.if_icmp .eq 103, 3) := by decide +kernel
theorem dL_law_738 : decode cL_law 738 = .ok (.iconst 0, 1) := by decide +kernel
theorem dL_law_739 : decode cL_law 739 = .ok (.ireturn, 1) := by decide +kernel
theorem dL_law_740 : decode cL_law 740 = .ok (.aload_n 1, 1) := by decide +kernel
theorem dL_law_741 : decode cL_law 741 = .ok (.invokevirtual 77, 3) := by decide +kernel
theorem dL_law_744 : decode cL_law 744 = .ok (.aload_n 2, 1) := by decide +kernel
theorem dL_law_745 : decode cL_law 745 = .ok (.invokevirtual 81, 3) := by decide +kernel
theorem dL_law_748 : decode cL_law 748 = .ok (.if_icmp .eq 90, 3) := by decide +kernel
theorem dL_law_751 : decode cL_law 751 = .ok (.iconst 0, 1) := by decide +kernel
theorem dL_law_752 : decode cL_law 752 = .ok (.ireturn, 1) := by decide +kernel
theorem dL_law_753 : decode cL_law 753 = .ok (.aload_n 1, 1) := by decide +kernel
theorem dL_law_754 : decode cL_law 754 = .ok (.invokevirtual 82, 3) := by decide +kernel
theorem dL_law_757 : decode cL_law 757 = .ok (.aload_n 2, 1) := by decide +kernel
theorem dL_law_758 : decode cL_law 758 = .ok (.invokevirtual 85, 3) := by decide +kernel
theorem dL_law_761 : decode cL_law 761 = .ok (.if_icmp .eq 77, 3) := by decide +kernel
theorem dL_law_764 : decode cL_law 764 = .ok (.iconst 0, 1) := by decide +kernel
theorem dL_law_765 : decode cL_law 765 = .ok (.ireturn, 1) := by decide +kernel
theorem dL_law_766 : decode cL_law 766 = .ok (.aload_n 1, 1) := by decide +kernel
theorem dL_law_767 : decode cL_law 767 = .ok (.invokevirtual 86, 3) := by decide +kernel
theorem dL_law_770 : decode cL_law 770 = .ok (.aload_n 2, 1) := by decide +kernel
theorem dL_law_771 : decode cL_law 771 = .ok (.invokevirtual 89, 3) := by decide +kernel
theorem dL_law_774 : decode cL_law 774 = .ok (.if_icmp .eq 64, 3) := by decide +kernel
theorem dL_law_777 : decode cL_law 777 = .ok (.iconst 0, 1) := by decide +kernel
theorem dL_law_778 : decode cL_law 778 = .ok (.ireturn, 1) := by decide +kernel
theorem dL_law_779 : decode cL_law 779 = .ok (.aload_n 1, 1) := by decide +kernel
theorem dL_law_780 : decode cL_law 780 = .ok (.invokevirtual 90, 3) := by decide +kernel
theorem dL_law_783 : decode cL_law 783 = .ok (.aload_n 2, 1) := by decide +kernel
theorem dL_law_784 : decode cL_law 784 = .ok (.invokevirtual 93, 3) := by decide +kernel
theorem dL_law_787 : decode cL_law 787 = .ok (.if_icmp .eq 51, 3) := by decide +kernel
theorem dL_law_790 : decode cL_law 790 = .ok (.iconst 0, 1) := by decide +kernel
theorem dL_law_791 : decode cL_law 791 = .ok (.ireturn, 1) := by decide +kernel
theorem dL_law_792 : decode cL_law 792 = .ok (.aload_n 1, 1) := by decide +kernel
theorem dL_law_793 : decode cL_law 793 = .ok (.aload_n 0, 1) := by decide +kernel
theorem dL_law_794 : decode cL_law 794 = .ok (.iload_n 3, 1) := by decide +kernel
theorem dL_law_795 : decode cL_law 795 = .ok (.iconst 1, 1) := by decide +kernel
theorem dL_law_796 : decode cL_law 796 = .ok (.iadd, 1) := by decide +kernel
theorem dL_law_797 : decode cL_law 797 = .ok (.iaload, 1) := by decide +kernel
theorem dL_law_798 : decode cL_law 798 = .ok (.invokevirtual 94, 3) := by decide +kernel
theorem dL_law_801 : decode cL_law 801 = .ok (.aload_n 2, 1) := by decide +kernel
theorem dL_law_802 : decode cL_law 802 = .ok (.aload_n 0, 1) := by decide +kernel
theorem dL_law_803 : decode cL_law 803 = .ok (.iload_n 3, 1) := by decide +kernel
theorem dL_law_804 : decode cL_law 804 = .ok (.iconst 1, 1) := by decide +kernel
theorem dL_law_805 : decode cL_law 805 = .ok (.iadd, 1) := by decide +kernel
theorem dL_law_806 : decode cL_law 806 = .ok (.iaload, 1) := by decide +kernel
theorem dL_law_807 : decode cL_law 807 = .ok (.invokevirtual 97, 3) := by decide +kernel
theorem dL_law_810 : decode cL_law 810 = .ok (.if_icmp .eq 28, 3) := by decide +kernel
theorem dL_law_813 : decode cL_law 813 = .ok (.iconst 0, 1) := by decide +kernel
theorem dL_law_814 : decode cL_law 814 = .ok (.ireturn, 1) := by decide +kernel
theorem dL_law_815 : decode cL_law 815 = .ok (.aload_n 1, 1) := by decide +kernel
theorem dL_law_816 : decode cL_law 816 = .ok (.aload_n 0, 1) := by decide +kernel
theorem dL_law_817 : decode cL_law 817 = .ok (.iload_n 3, 1) := by decide +kernel
theorem dL_law_818 : decode cL_law 818 = .ok (.iconst 1, 1) := by decide +kernel
theorem dL_law_819 : decode cL_law 819 = .ok (.iadd, 1) := by decide +kernel
theorem dL_law_820 : decode cL_law 820 = .ok (.iaload, 1) := by decide +kernel
theorem dL_law_821 : decode cL_law 821 = .ok (.invokevirtual 98, 3) := by decide +kernel
theorem dL_law_824 : decode cL_law 824 = .ok (.aload_n 2, 1) := by decide +kernel
theorem dL_law_825 : decode cL_law 825 = .ok (.aload_n 0, 1) := by decide +kernel
theorem dL_law_826 : decode cL_law 826 = .ok (.iload_n 3, 1) := by decide +kernel
theorem dL_law_827 : decode cL_law 827 = .ok (.iconst 1, 1) := by decide +kernel
theorem dL_law_828 : decode cL_law 828 = .ok (.iadd, 1) := by decide +kernel
theorem dL_law_829 : decode cL_law 829 = .ok (.iaload, 1) := by decide +kernel
theorem dL_law_830 : decode cL_law 830 = .ok (.invokevirtual 101, 3) := by decide +kernel
theorem dL_law_833 : decode cL_law 833 = .ok (.if_icmp .eq 5, 3) := by decide +kernel
theorem dL_law_836 : decode cL_law 836 = .ok (.iconst 0, 1) := by decide +kernel
theorem dL_law_837 : decode cL_law 837 = .ok (.ireturn, 1) := by decide +kernel
theorem dL_law_838 : decode cL_law 838 = .ok (.iinc 3 6, 3) := by decide +kernel
theorem dL_law_841 : decode cL_law 841 = .ok (.goto (-823), 3) := by decide +kernel
theorem dL_law_844 : decode cL_law 844 = .ok (.iconst 1, 1) := by decide +kernel
theorem dL_law_845 : decode cL_law 845 = .ok (.ireturn, 1) := by decide +kernel
