/-! what each instruction of the program is (printed by program) -/
theorem dX0_init_0 : decode cX0_init 0 = .ok (.aload_n 0, 1) := by decide +kernel
theorem dX0_init_1 : decode cX0_init 1 = .ok (.invokespecial 3, 3) := by decide +kernel
theorem dX0_init_4 : decode cX0_init 4 = .ok (.aload_n 0, 1) := by decide +kernel
theorem dX0_init_5 : decode cX0_init 5 = .ok (.new 9, 3) := by decide +kernel
theorem dX0_init_8 : decode cX0_init 8 = .ok (.dup, 1) := by decide +kernel
theorem dX0_init_9 : decode cX0_init 9 = .ok (.invokespecial 11, 3) := by decide +kernel
theorem dX0_init_12 : decode cX0_init 12 = .ok (.putfield 12, 3) := by decide +kernel
theorem dX0_init_15 : decode cX0_init 15 = .ok (.aload_n 0, 1) := by decide +kernel
theorem dX0_init_16 : decode cX0_init 16 = .ok (.new 18, 3) := by decide +kernel
theorem dX0_init_19 : decode cX0_init 19 = .ok (.dup, 1) := by decide +kernel
theorem dX0_init_20 : decode cX0_init 20 = .ok (.bipush 100, 2) := by decide +kernel
theorem dX0_init_22 : decode cX0_init 22 = .ok (.bipush 6, 2) := by decide +kernel
theorem dX0_init_24 : decode cX0_init 24 = .ok (.invokespecial 20, 3) := by decide +kernel
theorem dX0_init_27 : decode cX0_init 27 = .ok (.putfield 23, 3) := by decide +kernel
theorem dX0_init_30 : decode cX0_init 30 = .ok (.aload_n 0, 1) := by decide +kernel
theorem dX0_init_31 : decode cX0_init 31 = .ok (.new 18, 3) := by decide +kernel
theorem dX0_init_34 : decode cX0_init 34 = .ok (.dup, 1) := by decide +kernel
theorem dX0_init_35 : decode cX0_init 35 = .ok (.bipush 100, 2) := by decide +kernel
theorem dX0_init_37 : decode cX0_init 37 = .ok (.bipush 7, 2) := by decide +kernel
theorem dX0_init_39 : decode cX0_init 39 = .ok (.invokespecial 20, 3) := by decide +kernel
theorem dX0_init_42 : decode cX0_init 42 = .ok (.putfield 27, 3) := by decide +kernel
theorem dX0_init_45 : decode cX0_init 45 = .ok (.aload_n 0, 1) := by decide +kernel
theorem dX0_init_46 : decode cX0_init 46 = .ok (.new 30, 3) := by decide +kernel
theorem dX0_init_49 : decode cX0_init 49 = .ok (.dup, 1) := by decide +kernel
theorem dX0_init_50 : decode cX0_init 50 = .ok (.invokespecial 32, 3) := by decide +kernel
theorem dX0_init_53 : decode cX0_init 53 = .ok (.putfield 33, 3) := by decide +kernel
theorem dX0_init_56 : decode cX0_init 56 = .ok (.aload_n 0, 1) := by decide +kernel
theorem dX0_init_57 : decode cX0_init 57 = .ok (.iconst 0, 1) := by decide +kernel
theorem dX0_init_58 : decode cX0_init 58 = .ok (.putfield 37, 3) := by decide +kernel
theorem dX0_init_61 : decode cX0_init 61 = .ok (.aload_n 0, 1) := by decide +kernel
theorem dX0_init_62 : decode cX0_init 62 = .ok (.new 18, 3) := by decide +kernel
theorem dX0_init_65 : decode cX0_init 65 = .ok (.dup, 1) := by decide +kernel
theorem dX0_init_66 : decode cX0_init 66 = .ok (.bipush 12, 2) := by decide +kernel
theorem dX0_init_68 : decode cX0_init 68 = .ok (.bipush 8, 2) := by decide +kernel
theorem dX0_init_70 : decode cX0_init 70 = .ok (.invokespecial 20, 3) := by decide +kernel
theorem dX0_init_73 : decode cX0_init 73 = .ok (.putfield 43, 3) := by decide +kernel
theorem dX0_init_76 : decode cX0_init 76 = .ok (.aload_n 0, 1) := by decide +kernel
theorem dX0_init_77 : decode cX0_init 77 = .ok (.new 18, 3) := by decide +kernel
theorem dX0_init_80 : decode cX0_init 80 = .ok (.dup, 1) := by decide +kernel
theorem dX0_init_81 : decode cX0_init 81 = .ok (.bipush 100, 2) := by decide +kernel
theorem dX0_init_83 : decode cX0_init 83 = .ok (.iconst 2, 1) := by decide +kernel
theorem dX0_init_84 : decode cX0_init 84 = .ok (.invokespecial 20, 3) := by decide +kernel
theorem dX0_init_87 : decode cX0_init 87 = .ok (.putfield 46, 3) := by decide +kernel
theorem dX0_init_90 : decode cX0_init 90 = .ok (.aload_n 0, 1) := by decide +kernel
theorem dX0_init_91 : decode cX0_init 91 = .ok (.iconst 0, 1) := by decide +kernel
theorem dX0_init_92 : decode cX0_init 92 = .ok (.putfield 49, 3) := by decide +kernel
theorem dX0_init_95 : decode cX0_init 95 = .ok (.aload_n 0, 1) := by decide +kernel
theorem dX0_init_96 : decode cX0_init 96 = .ok (.iconst 0, 1) := by decide +kernel
theorem dX0_init_97 : decode cX0_init 97 = .ok (.putfield 53, 3) := by decide +kernel
theorem dX0_init_100 : decode cX0_init 100 = .ok (.aload_n 0, 1) := by decide +kernel
theorem dX0_init_101 : decode cX0_init 101 = .ok (.iconst (-1), 1) := by decide +kernel
theorem dX0_init_102 : decode cX0_init 102 = .ok (.putfield 56, 3) := by decide +kernel
theorem dX0_init_105 : decode cX0_init 105 = .ok (.aload_n 0, 1) := by decide +kernel
theorem dX0_init_106 : decode cX0_init 106 = .ok (.iconst 0, 1) := by decide +kernel
theorem dX0_init_107 : decode cX0_init 107 = .ok (.putfield 59, 3) := by decide +kernel
theorem dX0_init_110 : decode cX0_init 110 = .ok (.return_, 1) := by decide +kernel
theorem dX0_run_0 : decode cX0_run 0 = .ok (.aload_n 0, 1) := by decide +kernel
theorem dX0_run_1 : decode cX0_run 1 = .ok (.getfield 12, 3) := by decide +kernel
theorem dX0_run_4 : decode cX0_run 4 = .ok (.aload_n 1, 1) := by decide +kernel
theorem dX0_run_5 : decode cX0_run 5 = .ok (.getfield 62, 3) := by decide +kernel
theorem dX0_run_8 : decode cX0_run 8 = .ok (.invokevirtual 65, 3) := by decide +kernel
theorem dX0_run_11 : decode cX0_run 11 = .ok (.aload_n 0, 1) := by decide +kernel
theorem dX0_run_12 : decode cX0_run 12 = .ok (.getfield 43, 3) := by decide +kernel
theorem dX0_run_15 : decode cX0_run 15 = .ok (.aload_n 1, 1) := by decide +kernel
theorem dX0_run_16 : decode cX0_run 16 = .ok (.getfield 69, 3) := by decide +kernel
theorem dX0_run_19 : decode cX0_run 19 = .ok (.getfield 72, 3) := by decide +kernel
theorem dX0_run_22 : decode cX0_run 22 = .ok (.invokevirtual 75, 3) := by decide +kernel
theorem dX0_run_25 : decode cX0_run 25 = .ok (.aload_n 0, 1) := by decide +kernel
theorem dX0_run_26 : decode cX0_run 26 = .ok (.aload_n 1, 1) := by decide +kernel
theorem dX0_run_27 : decode cX0_run 27 = .ok (.getfield 78, 3) := by decide +kernel
theorem dX0_run_30 : decode cX0_run 30 = .ok (.iconst 1, 1) := by decide +kernel
theorem dX0_run_31 : decode cX0_run 31 = .ok (.if_icmp .ne 7, 3) := by decide +kernel
theorem dX0_run_34 : decode cX0_run 34 = .ok (.iconst 1, 1) := by decide +kernel
theorem dX0_run_35 : decode cX0_run 35 = .ok (.goto 4, 3) := by decide +kernel
theorem dX0_run_38 : decode cX0_run 38 = .ok (.iconst 0, 1) := by decide +kernel
theorem dX0_run_39 : decode cX0_run 39 = .ok (.putfield 49, 3) := by decide +kernel
theorem dX0_run_42 : decode cX0_run 42 = .ok (.aload_n 0, 1) := by decide +kernel
theorem dX0_run_43 : decode cX0_run 43 = .ok (.getfield 23, 3) := by decide +kernel
theorem dX0_run_46 : decode cX0_run 46 = .ok (.invokevirtual 81, 3) := by decide +kernel
theorem dX0_run_49 : decode cX0_run 49 = .ok (.aload_n 0, 1) := by decide +kernel
theorem dX0_run_50 : decode cX0_run 50 = .ok (.getfield 27, 3) := by decide +kernel
theorem dX0_run_53 : decode cX0_run 53 = .ok (.invokevirtual 81, 3) := by decide +kernel
theorem dX0_run_56 : decode cX0_run 56 = .ok (.aload_n 0, 1) := by decide +kernel
theorem dX0_run_57 : decode cX0_run 57 = .ok (.getfield 33, 3) := by decide +kernel
theorem dX0_run_60 : decode cX0_run 60 = .ok (.invokevirtual 84, 3) := by decide +kernel
theorem dX0_run_63 : decode cX0_run 63 = .ok (.aload_n 0, 1) := by decide +kernel
theorem dX0_run_64 : decode cX0_run 64 = .ok (.getfield 46, 3) := by decide +kernel
theorem dX0_run_67 : decode cX0_run 67 = .ok (.invokevirtual 81, 3) := by decide +kernel
theorem dX0_run_70 : decode cX0_run 70 = .ok (.aload_n 0, 1) := by decide +kernel
theorem dX0_run_71 : decode cX0_run 71 = .ok (.iconst 0, 1) := by decide +kernel
theorem dX0_run_72 : decode cX0_run 72 = .ok (.putfield 37, 3) := by decide +kernel
theorem dX0_run_75 : decode cX0_run 75 = .ok (.aload_n 0, 1) := by decide +kernel
theorem dX0_run_76 : decode cX0_run 76 = .ok (.iconst 0, 1) := by decide +kernel
theorem dX0_run_77 : decode cX0_run 77 = .ok (.putfield 59, 3) := by decide +kernel
theorem dX0_run_80 : decode cX0_run 80 = .ok (.aload_n 0, 1) := by decide +kernel
theorem dX0_run_81 : decode cX0_run 81 = .ok (.iload 6, 2) := by decide +kernel
theorem dX0_run_83 : decode cX0_run 83 = .ok (.putfield 53, 3) := by decide +kernel
theorem dX0_run_86 : decode cX0_run 86 = .ok (.aload_n 0, 1) := by decide +kernel
theorem dX0_run_87 : decode cX0_run 87 = .ok (.iload 7, 2) := by decide +kernel
theorem dX0_run_89 : decode cX0_run 89 = .ok (.putfield 56, 3) := by decide +kernel
theorem dX0_run_92 : decode cX0_run 92 = .ok (.aload_n 0, 1) := by decide +kernel
theorem dX0_run_93 : decode cX0_run 93 = .ok (.iload_n 2, 1) := by decide +kernel
theorem dX0_run_94 : decode cX0_run 94 = .ok (.iload_n 3, 1) := by decide +kernel
theorem dX0_run_95 : decode cX0_run 95 = .ok (.iload 4, 2) := by decide +kernel
theorem dX0_run_97 : decode cX0_run 97 = .ok (.iload 5, 2) := by decide +kernel
theorem dX0_run_99 : decode cX0_run 99 = .ok (.iconst 0, 1) := by decide +kernel
theorem dX0_run_100 : decode cX0_run 100 = .ok (.iconst (-1), 1) := by decide +kernel
theorem dX0_run_101 : decode cX0_run 101 = .ok (.bipush (-6), 2) := by decide +kernel
theorem dX0_run_103 : decode cX0_run 103 = .ok (.invokevirtual 85, 3) := by decide +kernel
theorem dX0_run_106 : decode cX0_run 106 = .ok (.istore 8, 2) := by decide +kernel
theorem dX0_run_108 : decode cX0_run 108 = .ok (.iconst 0, 1) := by decide +kernel
theorem dX0_run_109 : decode cX0_run 109 = .ok (.istore 9, 2) := by decide +kernel
theorem dX0_run_111 : decode cX0_run 111 = .ok (.iload 8, 2) := by decide +kernel
theorem dX0_run_113 : decode cX0_run 113 = .ok (.ifCond .eq 70, 3) := by decide +kernel
theorem dX0_run_116 : decode cX0_run 116 = .ok (.iload 9, 2) := by decide +kernel
theorem dX0_run_118 : decode cX0_run 118 = .ok (.bipush 100, 2) := by decide +kernel
theorem dX0_run_120 : decode cX0_run 120 = .ok (.if_icmp .ge 63, 3) := by decide +kernel
theorem dX0_run_123 : decode cX0_run 123 = .ok (.iload 9, 2) := by decide +kernel
theorem dX0_run_125 : decode cX0_run 125 = .ok (.aload_n 0, 1) := by decide +kernel
theorem dX0_run_126 : decode cX0_run 126 = .ok (.getfield 46, 3) := by decide +kernel
theorem dX0_run_129 : decode cX0_run 129 = .ok (.invokevirtual 89, 3) := by decide +kernel
theorem dX0_run_132 : decode cX0_run 132 = .ok (.if_icmp .ge 51, 3) := by decide +kernel
theorem dX0_run_135 : decode cX0_run 135 = .ok (.aload_n 0, 1) := by decide +kernel
theorem dX0_run_136 : decode cX0_run 136 = .ok (.getfield 46, 3) := by decide +kernel
theorem dX0_run_139 : decode cX0_run 139 = .ok (.iload 9, 2) := by decide +kernel
theorem dX0_run_141 : decode cX0_run 141 = .ok (.iconst 1, 1) := by decide +kernel
theorem dX0_run_142 : decode cX0_run 142 = .ok (.invokevirtual 93, 3) := by decide +kernel
theorem dX0_run_145 : decode cX0_run 145 = .ok (.istore 10, 2) := by decide +kernel
theorem dX0_run_147 : decode cX0_run 147 = .ok (.aload_n 0, 1) := by decide +kernel
theorem dX0_run_148 : decode cX0_run 148 = .ok (.aload_n 0, 1) := by decide +kernel
theorem dX0_run_149 : decode cX0_run 149 = .ok (.getfield 46, 3) := by decide +kernel
theorem dX0_run_152 : decode cX0_run 152 = .ok (.iload 9, 2) := by decide +kernel
theorem dX0_run_154 : decode cX0_run 154 = .ok (.iconst 0, 1) := by decide +kernel
theorem dX0_run_155 : decode cX0_run 155 = .ok (.invokevirtual 93, 3) := by decide +kernel
theorem dX0_run_158 : decode cX0_run 158 = .ok (.iload 10, 2) := by decide +kernel
theorem dX0_run_160 : decode cX0_run 160 = .ok (.aload_n 0, 1) := by decide +kernel
theorem dX0_run_161 : decode cX0_run 161 = .ok (.getfield 27, 3) := by decide +kernel
theorem dX0_run_164 : decode cX0_run 164 = .ok (.iload 10, 2) := by decide +kernel
theorem dX0_run_166 : decode cX0_run 166 = .ok (.iconst 4, 1) := by decide +kernel
theorem dX0_run_167 : decode cX0_run 167 = .ok (.invokevirtual 93, 3) := by decide +kernel
theorem dX0_run_170 : decode cX0_run 170 = .ok (.iconst 1, 1) := by decide +kernel
theorem dX0_run_171 : decode cX0_run 171 = .ok (.iadd, 1) := by decide +kernel
theorem dX0_run_172 : decode cX0_run 172 = .ok (.invokevirtual 97, 3) := by decide +kernel
theorem dX0_run_175 : decode cX0_run 175 = .ok (.istore 8, 2) := by decide +kernel
theorem dX0_run_177 : decode cX0_run 177 = .ok (.iinc 9 1, 3) := by decide +kernel
theorem dX0_run_180 : decode cX0_run 180 = .ok (.goto (-69), 3) := by decide +kernel
theorem dX0_run_183 : decode cX0_run 183 = .ok (.return_, 1) := by decide +kernel
theorem dX0_greatestDepth_0 : decode cX0_greatestDepth 0 = .ok (.bipush (-6), 2) := by decide +kernel
theorem dX0_greatestDepth_2 : decode cX0_greatestDepth 2 = .ok (.istore_n 1, 1) := by decide +kernel
theorem dX0_greatestDepth_3 : decode cX0_greatestDepth 3 = .ok (.iconst 0, 1) := by decide +kernel
theorem dX0_greatestDepth_4 : decode cX0_greatestDepth 4 = .ok (.istore_n 2, 1) := by decide +kernel
theorem dX0_greatestDepth_5 : decode cX0_greatestDepth 5 = .ok (.iload_n 2, 1) := by decide +kernel
theorem dX0_greatestDepth_6 : decode cX0_greatestDepth 6 = .ok (.aload_n 0, 1) := by decide +kernel
theorem dX0_greatestDepth_7 : decode cX0_greatestDepth 7 = .ok (.getfield 27, 3) := by decide +kernel
theorem dX0_greatestDepth_10 : decode cX0_greatestDepth 10 = .ok (.invokevirtual 89, 3) := by decide +kernel
theorem dX0_greatestDepth_13 : decode cX0_greatestDepth 13 = .ok (.if_icmp .ge 23, 3) := by decide +kernel
theorem dX0_greatestDepth_16 : decode cX0_greatestDepth 16 = .ok (.iload_n 1, 1) := by decide +kernel
theorem dX0_greatestDepth_17 : decode cX0_greatestDepth 17 = .ok (.aload_n 0, 1) := by decide +kernel
theorem dX0_greatestDepth_18 : decode cX0_greatestDepth 18 = .ok (.getfield 27, 3) := by decide +kernel
theorem dX0_greatestDepth_21 : decode cX0_greatestDepth 21 = .ok (.iload_n 2, 1) := by decide +kernel
theorem dX0_greatestDepth_22 : decode cX0_greatestDepth 22 = .ok (.iconst 4, 1) := by decide +kernel
theorem dX0_greatestDepth_23 : decode cX0_greatestDepth 23 = .ok (.invokevirtual 93, 3) := by decide +kernel
theorem dX0_greatestDepth_26 : decode cX0_greatestDepth 26 = .ok (.invokestatic 101, 3) := by decide +kernel
theorem dX0_greatestDepth_29 : decode cX0_greatestDepth 29 = .ok (.istore_n 1, 1) := by decide +kernel
theorem dX0_greatestDepth_30 : decode cX0_greatestDepth 30 = .ok (.iinc 2 1, 3) := by decide +kernel
theorem dX0_greatestDepth_33 : decode cX0_greatestDepth 33 = .ok (.goto (-28), 3) := by decide +kernel
theorem dX0_greatestDepth_36 : decode cX0_greatestDepth 36 = .ok (.iload_n 1, 1) := by decide +kernel
theorem dX0_greatestDepth_37 : decode cX0_greatestDepth 37 = .ok (.ireturn, 1) := by decide +kernel
theorem dX0_carry_0 : decode cX0_carry 0 = .ok (.iload 5, 2) := by decide +kernel
theorem dX0_carry_2 : decode cX0_carry 2 = .ok (.aload_n 0, 1) := by decide +kernel
theorem dX0_carry_3 : decode cX0_carry 3 = .ok (.getfield 53, 3) := by decide +kernel
theorem dX0_carry_6 : decode cX0_carry 6 = .ok (.if_icmp .le 22, 3) := by decide +kernel
theorem dX0_carry_9 : decode cX0_carry 9 = .ok (.aload_n 0, 1) := by decide +kernel
theorem dX0_carry_10 : decode cX0_carry 10 = .ok (.getfield 33, 3) := by decide +kernel
theorem dX0_carry_13 : decode cX0_carry 13 = .ok (.iconst 1, 1) := by decide +kernel
theorem dX0_carry_14 : decode cX0_carry 14 = .ok (.iload_n 2, 1) := by decide +kernel
theorem dX0_carry_15 : decode cX0_carry 15 = .ok (.iload_n 3, 1) := by decide +kernel
theorem dX0_carry_16 : decode cX0_carry 16 = .ok (.aload_n 0, 1) := by decide +kernel
theorem dX0_carry_17 : decode cX0_carry 17 = .ok (.getfield 27, 3) := by decide +kernel
theorem dX0_carry_20 : decode cX0_carry 20 = .ok (.iload 6, 2) := by decide +kernel
theorem dX0_carry_22 : decode cX0_carry 22 = .ok (.iload 7, 2) := by decide +kernel
theorem dX0_carry_24 : decode cX0_carry 24 = .ok (.invokevirtual 106, 3) := by decide +kernel
theorem dX0_carry_27 : decode cX0_carry 27 = .ok (.ireturn, 1) := by decide +kernel
theorem dX0_carry_28 : decode cX0_carry 28 = .ok (.aload_n 0, 1) := by decide +kernel
theorem dX0_carry_29 : decode cX0_carry 29 = .ok (.getfield 27, 3) := by decide +kernel
theorem dX0_carry_32 : decode cX0_carry 32 = .ok (.invokevirtual 89, 3) := by decide +kernel
theorem dX0_carry_35 : decode cX0_carry 35 = .ok (.bipush 100, 2) := by decide +kernel
theorem dX0_carry_37 : decode cX0_carry 37 = .ok (.if_icmp .lt 22, 3) := by decide +kernel
theorem dX0_carry_40 : decode cX0_carry 40 = .ok (.aload_n 0, 1) := by decide +kernel
theorem dX0_carry_41 : decode cX0_carry 41 = .ok (.getfield 33, 3) := by decide +kernel
theorem dX0_carry_44 : decode cX0_carry 44 = .ok (.iconst 2, 1) := by decide +kernel
theorem dX0_carry_45 : decode cX0_carry 45 = .ok (.iload_n 2, 1) := by decide +kernel
theorem dX0_carry_46 : decode cX0_carry 46 = .ok (.iload_n 3, 1) := by decide +kernel
theorem dX0_carry_47 : decode cX0_carry 47 = .ok (.aload_n 0, 1) := by decide +kernel
theorem dX0_carry_48 : decode cX0_carry 48 = .ok (.getfield 27, 3) := by decide +kernel
theorem dX0_carry_51 : decode cX0_carry 51 = .ok (.iload 6, 2) := by decide +kernel
theorem dX0_carry_53 : decode cX0_carry 53 = .ok (.iload 7, 2) := by decide +kernel
theorem dX0_carry_55 : decode cX0_carry 55 = .ok (.invokevirtual 106, 3) := by decide +kernel
theorem dX0_carry_58 : decode cX0_carry 58 = .ok (.ireturn, 1) := by decide +kernel
theorem dX0_carry_59 : decode cX0_carry 59 = .ok (.aload_n 0, 1) := by decide +kernel
theorem dX0_carry_60 : decode cX0_carry 60 = .ok (.getfield 12, 3) := by decide +kernel
theorem dX0_carry_63 : decode cX0_carry 63 = .ok (.iload_n 1, 1) := by decide +kernel
theorem dX0_carry_64 : decode cX0_carry 64 = .ok (.iload_n 2, 1) := by decide +kernel
theorem dX0_carry_65 : decode cX0_carry 65 = .ok (.iload_n 3, 1) := by decide +kernel
theorem dX0_carry_66 : decode cX0_carry 66 = .ok (.iload 4, 2) := by decide +kernel
theorem dX0_carry_68 : decode cX0_carry 68 = .ok (.invokevirtual 110, 3) := by decide +kernel
theorem dX0_carry_71 : decode cX0_carry 71 = .ok (.istore 8, 2) := by decide +kernel
theorem dX0_carry_73 : decode cX0_carry 73 = .ok (.aload_n 0, 1) := by decide +kernel
theorem dX0_carry_74 : decode cX0_carry 74 = .ok (.iload_n 1, 1) := by decide +kernel
theorem dX0_carry_75 : decode cX0_carry 75 = .ok (.iload_n 2, 1) := by decide +kernel
theorem dX0_carry_76 : decode cX0_carry 76 = .ok (.iload_n 3, 1) := by decide +kernel
theorem dX0_carry_77 : decode cX0_carry 77 = .ok (.iload 8, 2) := by decide +kernel
theorem dX0_carry_79 : decode cX0_carry 79 = .ok (.iload 5, 2) := by decide +kernel
theorem dX0_carry_81 : decode cX0_carry 81 = .ok (.iload 6, 2) := by decide +kernel
theorem dX0_carry_83 : decode cX0_carry 83 = .ok (.iload 7, 2) := by decide +kernel
theorem dX0_carry_85 : decode cX0_carry 85 = .ok (.invokevirtual 114, 3) := by decide +kernel
theorem dX0_carry_88 : decode cX0_carry 88 = .ok (.istore 9, 2) := by decide +kernel
theorem dX0_carry_90 : decode cX0_carry 90 = .ok (.iconst 1, 1) := by decide +kernel
theorem dX0_carry_91 : decode cX0_carry 91 = .ok (.iload_n 2, 1) := by decide +kernel
theorem dX0_carry_92 : decode cX0_carry 92 = .ok (.ishl, 1) := by decide +kernel
theorem dX0_carry_93 : decode cX0_carry 93 = .ok (.istore 10, 2) := by decide +kernel
theorem dX0_carry_95 : decode cX0_carry 95 = .ok (.aload_n 0, 1) := by decide +kernel
theorem dX0_carry_96 : decode cX0_carry 96 = .ok (.getfield 59, 3) := by decide +kernel
theorem dX0_carry_99 : decode cX0_carry 99 = .ok (.iload 10, 2) := by decide +kernel
theorem dX0_carry_101 : decode cX0_carry 101 = .ok (.iand, 1) := by decide +kernel
theorem dX0_carry_102 : decode cX0_carry 102 = .ok (.ifCond .eq 22, 3) := by decide +kernel
theorem dX0_carry_105 : decode cX0_carry 105 = .ok (.aload_n 0, 1) := by decide +kernel
theorem dX0_carry_106 : decode cX0_carry 106 = .ok (.getfield 33, 3) := by decide +kernel
theorem dX0_carry_109 : decode cX0_carry 109 = .ok (.iconst 3, 1) := by decide +kernel
theorem dX0_carry_110 : decode cX0_carry 110 = .ok (.iload_n 2, 1) := by decide +kernel
theorem dX0_carry_111 : decode cX0_carry 111 = .ok (.iload_n 3, 1) := by decide +kernel
theorem dX0_carry_112 : decode cX0_carry 112 = .ok (.aload_n 0, 1) := by decide +kernel
theorem dX0_carry_113 : decode cX0_carry 113 = .ok (.getfield 27, 3) := by decide +kernel
theorem dX0_carry_116 : decode cX0_carry 116 = .ok (.iload 6, 2) := by decide +kernel
theorem dX0_carry_118 : decode cX0_carry 118 = .ok (.iload 7, 2) := by decide +kernel
theorem dX0_carry_120 : decode cX0_carry 120 = .ok (.invokevirtual 106, 3) := by decide +kernel
theorem dX0_carry_123 : decode cX0_carry 123 = .ok (.ireturn, 1) := by decide +kernel
theorem dX0_carry_124 : decode cX0_carry 124 = .ok (.iload 8, 2) := by decide +kernel
theorem dX0_carry_126 : decode cX0_carry 126 = .ok (.iconst (-1), 1) := by decide +kernel
theorem dX0_carry_127 : decode cX0_carry 127 = .ok (.if_icmp .ne 39, 3) := by decide +kernel
theorem dX0_carry_130 : decode cX0_carry 130 = .ok (.aload_n 0, 1) := by decide +kernel
theorem dX0_carry_131 : decode cX0_carry 131 = .ok (.iload 6, 2) := by decide +kernel
theorem dX0_carry_133 : decode cX0_carry 133 = .ok (.invokevirtual 118, 3) := by decide +kernel
theorem dX0_carry_136 : decode cX0_carry 136 = .ok (.ifCond .ne 24, 3) := by decide +kernel
theorem dX0_carry_139 : decode cX0_carry 139 = .ok (.aload_n 0, 1) := by decide +kernel
theorem dX0_carry_140 : decode cX0_carry 140 = .ok (.getfield 33, 3) := by decide +kernel
theorem dX0_carry_143 : decode cX0_carry 143 = .ok (.iconst 4, 1) := by decide +kernel
theorem dX0_carry_144 : decode cX0_carry 144 = .ok (.iload_n 2, 1) := by decide +kernel
theorem dX0_carry_145 : decode cX0_carry 145 = .ok (.iload_n 3, 1) := by decide +kernel
theorem dX0_carry_146 : decode cX0_carry 146 = .ok (.aload_n 0, 1) := by decide +kernel
theorem dX0_carry_147 : decode cX0_carry 147 = .ok (.getfield 27, 3) := by decide +kernel
theorem dX0_carry_150 : decode cX0_carry 150 = .ok (.iload 6, 2) := by decide +kernel
theorem dX0_carry_152 : decode cX0_carry 152 = .ok (.iload 7, 2) := by decide +kernel
theorem dX0_carry_154 : decode cX0_carry 154 = .ok (.invokevirtual 106, 3) := by decide +kernel
theorem dX0_carry_157 : decode cX0_carry 157 = .ok (.ifCond .eq 7, 3) := by decide +kernel
theorem dX0_carry_160 : decode cX0_carry 160 = .ok (.iconst 1, 1) := by decide +kernel
theorem dX0_carry_161 : decode cX0_carry 161 = .ok (.goto 4, 3) := by decide +kernel
theorem dX0_carry_164 : decode cX0_carry 164 = .ok (.iconst 0, 1) := by decide +kernel
theorem dX0_carry_165 : decode cX0_carry 165 = .ok (.ireturn, 1) := by decide +kernel
theorem dX0_carry_166 : decode cX0_carry 166 = .ok (.aload_n 0, 1) := by decide +kernel
theorem dX0_carry_167 : decode cX0_carry 167 = .ok (.dup, 1) := by decide +kernel
theorem dX0_carry_168 : decode cX0_carry 168 = .ok (.getfield 59, 3) := by decide +kernel
theorem dX0_carry_171 : decode cX0_carry 171 = .ok (.iload 10, 2) := by decide +kernel
theorem dX0_carry_173 : decode cX0_carry 173 = .ok (.ior, 1) := by decide +kernel
theorem dX0_carry_174 : decode cX0_carry 174 = .ok (.putfield 59, 3) := by decide +kernel
theorem dX0_carry_177 : decode cX0_carry 177 = .ok (.aload_n 0, 1) := by decide +kernel
theorem dX0_carry_178 : decode cX0_carry 178 = .ok (.iconst 0, 1) := by decide +kernel
theorem dX0_carry_179 : decode cX0_carry 179 = .ok (.iload 9, 2) := by decide +kernel
theorem dX0_carry_181 : decode cX0_carry 181 = .ok (.iload 5, 2) := by decide +kernel
theorem dX0_carry_183 : decode cX0_carry 183 = .ok (.invokevirtual 122, 3) := by decide +kernel
theorem dX0_carry_186 : decode cX0_carry 186 = .ok (.istore 11, 2) := by decide +kernel
theorem dX0_carry_188 : decode cX0_carry 188 = .ok (.iload 11, 2) := by decide +kernel
theorem dX0_carry_190 : decode cX0_carry 190 = .ok (.ifCond .eq 32, 3) := by decide +kernel
theorem dX0_carry_193 : decode cX0_carry 193 = .ok (.aload_n 0, 1) := by decide +kernel
theorem dX0_carry_194 : decode cX0_carry 194 = .ok (.getfield 12, 3) := by decide +kernel
theorem dX0_carry_197 : decode cX0_carry 197 = .ok (.iload_n 1, 1) := by decide +kernel
theorem dX0_carry_198 : decode cX0_carry 198 = .ok (.iload_n 2, 1) := by decide +kernel
theorem dX0_carry_199 : decode cX0_carry 199 = .ok (.iload_n 3, 1) := by decide +kernel
theorem dX0_carry_200 : decode cX0_carry 200 = .ok (.iload 8, 2) := by decide +kernel
theorem dX0_carry_202 : decode cX0_carry 202 = .ok (.invokevirtual 125, 3) := by decide +kernel
theorem dX0_carry_205 : decode cX0_carry 205 = .ok (.aload_n 0, 1) := by decide +kernel
theorem dX0_carry_206 : decode cX0_carry 206 = .ok (.iload 9, 2) := by decide +kernel
theorem dX0_carry_208 : decode cX0_carry 208 = .ok (.invokevirtual 129, 3) := by decide +kernel
theorem dX0_carry_211 : decode cX0_carry 211 = .ok (.aload_n 0, 1) := by decide +kernel
theorem dX0_carry_212 : decode cX0_carry 212 = .ok (.iconst 1, 1) := by decide +kernel
theorem dX0_carry_213 : decode cX0_carry 213 = .ok (.iload 9, 2) := by decide +kernel
theorem dX0_carry_215 : decode cX0_carry 215 = .ok (.iload 5, 2) := by decide +kernel
theorem dX0_carry_217 : decode cX0_carry 217 = .ok (.invokevirtual 122, 3) := by decide +kernel
theorem dX0_carry_220 : decode cX0_carry 220 = .ok (.istore 11, 2) := by decide +kernel
theorem dX0_carry_222 : decode cX0_carry 222 = .ok (.iload 11, 2) := by decide +kernel
theorem dX0_carry_224 : decode cX0_carry 224 = .ok (.ifCond .eq 9, 3) := by decide +kernel
theorem dX0_carry_227 : decode cX0_carry 227 = .ok (.aload_n 0, 1) := by decide +kernel
theorem dX0_carry_228 : decode cX0_carry 228 = .ok (.iload 9, 2) := by decide +kernel
theorem dX0_carry_230 : decode cX0_carry 230 = .ok (.invokevirtual 133, 3) := by decide +kernel
theorem dX0_carry_233 : decode cX0_carry 233 = .ok (.aload_n 0, 1) := by decide +kernel
theorem dX0_carry_234 : decode cX0_carry 234 = .ok (.dup, 1) := by decide +kernel
theorem dX0_carry_235 : decode cX0_carry 235 = .ok (.getfield 59, 3) := by decide +kernel
theorem dX0_carry_238 : decode cX0_carry 238 = .ok (.iload 10, 2) := by decide +kernel
theorem dX0_carry_240 : decode cX0_carry 240 = .ok (.iconst (-1), 1) := by decide +kernel
theorem dX0_carry_241 : decode cX0_carry 241 = .ok (.ixor, 1) := by decide +kernel
theorem dX0_carry_242 : decode cX0_carry 242 = .ok (.iand, 1) := by decide +kernel
theorem dX0_carry_243 : decode cX0_carry 243 = .ok (.putfield 59, 3) := by decide +kernel
theorem dX0_carry_246 : decode cX0_carry 246 = .ok (.iload 11, 2) := by decide +kernel
theorem dX0_carry_248 : decode cX0_carry 248 = .ok (.ireturn, 1) := by decide +kernel
theorem dX0_begin_0 : decode cX0_begin 0 = .ok (.aload_n 0, 1) := by decide +kernel
theorem dX0_begin_1 : decode cX0_begin 1 = .ok (.getfield 27, 3) := by decide +kernel
theorem dX0_begin_4 : decode cX0_begin 4 = .ok (.invokevirtual 136, 3) := by decide +kernel
theorem dX0_begin_7 : decode cX0_begin 7 = .ok (.istore 8, 2) := by decide +kernel
theorem dX0_begin_9 : decode cX0_begin 9 = .ok (.aload_n 0, 1) := by decide +kernel
theorem dX0_begin_10 : decode cX0_begin 10 = .ok (.getfield 27, 3) := by decide +kernel
theorem dX0_begin_13 : decode cX0_begin 13 = .ok (.iload 8, 2) := by decide +kernel
theorem dX0_begin_15 : decode cX0_begin 15 = .ok (.iconst 0, 1) := by decide +kernel
theorem dX0_begin_16 : decode cX0_begin 16 = .ok (.iload_n 1, 1) := by decide +kernel
theorem dX0_begin_17 : decode cX0_begin 17 = .ok (.invokevirtual 139, 3) := by decide +kernel
theorem dX0_begin_20 : decode cX0_begin 20 = .ok (.aload_n 0, 1) := by decide +kernel
theorem dX0_begin_21 : decode cX0_begin 21 = .ok (.getfield 27, 3) := by decide +kernel
theorem dX0_begin_24 : decode cX0_begin 24 = .ok (.iload 8, 2) := by decide +kernel
theorem dX0_begin_26 : decode cX0_begin 26 = .ok (.iconst 1, 1) := by decide +kernel
theorem dX0_begin_27 : decode cX0_begin 27 = .ok (.iload_n 2, 1) := by decide +kernel
theorem dX0_begin_28 : decode cX0_begin 28 = .ok (.invokevirtual 139, 3) := by decide +kernel
theorem dX0_begin_31 : decode cX0_begin 31 = .ok (.aload_n 0, 1) := by decide +kernel
theorem dX0_begin_32 : decode cX0_begin 32 = .ok (.getfield 27, 3) := by decide +kernel
theorem dX0_begin_35 : decode cX0_begin 35 = .ok (.iload 8, 2) := by decide +kernel
theorem dX0_begin_37 : decode cX0_begin 37 = .ok (.iconst 2, 1) := by decide +kernel
theorem dX0_begin_38 : decode cX0_begin 38 = .ok (.iload_n 3, 1) := by decide +kernel
theorem dX0_begin_39 : decode cX0_begin 39 = .ok (.invokevirtual 139, 3) := by decide +kernel
theorem dX0_begin_42 : decode cX0_begin 42 = .ok (.aload_n 0, 1) := by decide +kernel
theorem dX0_begin_43 : decode cX0_begin 43 = .ok (.getfield 27, 3) := by decide +kernel
theorem dX0_begin_46 : decode cX0_begin 46 = .ok (.iload 8, 2) := by decide +kernel
theorem dX0_begin_48 : decode cX0_begin 48 = .ok (.iconst 3, 1) := by decide +kernel
theorem dX0_begin_49 : decode cX0_begin 49 = .ok (.iload 4, 2) := by decide +kernel
theorem dX0_begin_51 : decode cX0_begin 51 = .ok (.invokevirtual 139, 3) := by decide +kernel
theorem dX0_begin_54 : decode cX0_begin 54 = .ok (.aload_n 0, 1) := by decide +kernel
theorem dX0_begin_55 : decode cX0_begin 55 = .ok (.getfield 27, 3) := by decide +kernel
theorem dX0_begin_58 : decode cX0_begin 58 = .ok (.iload 8, 2) := by decide +kernel
theorem dX0_begin_60 : decode cX0_begin 60 = .ok (.iconst 4, 1) := by decide +kernel
theorem dX0_begin_61 : decode cX0_begin 61 = .ok (.iload 5, 2) := by decide +kernel
theorem dX0_begin_63 : decode cX0_begin 63 = .ok (.invokevirtual 139, 3) := by decide +kernel
theorem dX0_begin_66 : decode cX0_begin 66 = .ok (.aload_n 0, 1) := by decide +kernel
theorem dX0_begin_67 : decode cX0_begin 67 = .ok (.getfield 27, 3) := by decide +kernel
theorem dX0_begin_70 : decode cX0_begin 70 = .ok (.iload 8, 2) := by decide +kernel
theorem dX0_begin_72 : decode cX0_begin 72 = .ok (.iconst 5, 1) := by decide +kernel
theorem dX0_begin_73 : decode cX0_begin 73 = .ok (.iload 7, 2) := by decide +kernel
theorem dX0_begin_75 : decode cX0_begin 75 = .ok (.invokevirtual 139, 3) := by decide +kernel
theorem dX0_begin_78 : decode cX0_begin 78 = .ok (.aload_n 0, 1) := by decide +kernel
theorem dX0_begin_79 : decode cX0_begin 79 = .ok (.getfield 27, 3) := by decide +kernel
theorem dX0_begin_82 : decode cX0_begin 82 = .ok (.iload 8, 2) := by decide +kernel
theorem dX0_begin_84 : decode cX0_begin 84 = .ok (.bipush 6, 2) := by decide +kernel
theorem dX0_begin_86 : decode cX0_begin 86 = .ok (.iload 6, 2) := by decide +kernel
theorem dX0_begin_88 : decode cX0_begin 88 = .ok (.invokevirtual 139, 3) := by decide +kernel
theorem dX0_begin_91 : decode cX0_begin 91 = .ok (.iload 8, 2) := by decide +kernel
theorem dX0_begin_93 : decode cX0_begin 93 = .ok (.ireturn, 1) := by decide +kernel
theorem dX0_noteDone_0 : decode cX0_noteDone 0 = .ok (.aload_n 0, 1) := by decide +kernel
theorem dX0_noteDone_1 : decode cX0_noteDone 1 = .ok (.getfield 23, 3) := by decide +kernel
theorem dX0_noteDone_4 : decode cX0_noteDone 4 = .ok (.invokevirtual 136, 3) := by decide +kernel
theorem dX0_noteDone_7 : decode cX0_noteDone 7 = .ok (.istore_n 2, 1) := by decide +kernel
theorem dX0_noteDone_8 : decode cX0_noteDone 8 = .ok (.iconst 0, 1) := by decide +kernel
theorem dX0_noteDone_9 : decode cX0_noteDone 9 = .ok (.istore_n 3, 1) := by decide +kernel
theorem dX0_noteDone_10 : decode cX0_noteDone 10 = .ok (.iload_n 3, 1) := by decide +kernel
theorem dX0_noteDone_11 : decode cX0_noteDone 11 = .ok (.bipush 6, 2) := by decide +kernel
theorem dX0_noteDone_13 : decode cX0_noteDone 13 = .ok (.if_icmp .ge 27, 3) := by decide +kernel
theorem dX0_noteDone_16 : decode cX0_noteDone 16 = .ok (.aload_n 0, 1) := by decide +kernel
theorem dX0_noteDone_17 : decode cX0_noteDone 17 = .ok (.getfield 23, 3) := by decide +kernel
theorem dX0_noteDone_20 : decode cX0_noteDone 20 = .ok (.iload_n 2, 1) := by decide +kernel
theorem dX0_noteDone_21 : decode cX0_noteDone 21 = .ok (.iload_n 3, 1) := by decide +kernel
theorem dX0_noteDone_22 : decode cX0_noteDone 22 = .ok (.aload_n 0, 1) := by decide +kernel
theorem dX0_noteDone_23 : decode cX0_noteDone 23 = .ok (.getfield 27, 3) := by decide +kernel
theorem dX0_noteDone_26 : decode cX0_noteDone 26 = .ok (.iload_n 1, 1) := by decide +kernel
theorem dX0_noteDone_27 : decode cX0_noteDone 27 = .ok (.iload_n 3, 1) := by decide +kernel
theorem dX0_noteDone_28 : decode cX0_noteDone 28 = .ok (.invokevirtual 93, 3) := by decide +kernel
theorem dX0_noteDone_31 : decode cX0_noteDone 31 = .ok (.invokevirtual 139, 3) := by decide +kernel
theorem dX0_noteDone_34 : decode cX0_noteDone 34 = .ok (.iinc 3 1, 3) := by decide +kernel
theorem dX0_noteDone_37 : decode cX0_noteDone 37 = .ok (.goto (-27), 3) := by decide +kernel
theorem dX0_noteDone_40 : decode cX0_noteDone 40 = .ok (.return_, 1) := by decide +kernel
theorem dX0_isLeftOut_0 : decode cX0_isLeftOut 0 = .ok (.iload_n 1, 1) := by decide +kernel
theorem dX0_isLeftOut_1 : decode cX0_isLeftOut 1 = .ok (.iconst (-1), 1) := by decide +kernel
theorem dX0_isLeftOut_2 : decode cX0_isLeftOut 2 = .ok (.if_icmp .eq 10, 3) := by decide +kernel
theorem dX0_isLeftOut_5 : decode cX0_isLeftOut 5 = .ok (.aload_n 0, 1) := by decide +kernel
theorem dX0_isLeftOut_6 : decode cX0_isLeftOut 6 = .ok (.getfield 49, 3) := by decide +kernel
theorem dX0_isLeftOut_9 : decode cX0_isLeftOut 9 = .ok (.ifCond .ne 5, 3) := by decide +kernel
theorem dX0_isLeftOut_12 : decode cX0_isLeftOut 12 = .ok (.iconst 0, 1) := by decide +kernel
theorem dX0_isLeftOut_13 : decode cX0_isLeftOut 13 = .ok (.ireturn, 1) := by decide +kernel
theorem dX0_isLeftOut_14 : decode cX0_isLeftOut 14 = .ok (.aload_n 0, 1) := by decide +kernel
theorem dX0_isLeftOut_15 : decode cX0_isLeftOut 15 = .ok (.dup, 1) := by decide +kernel
theorem dX0_isLeftOut_16 : decode cX0_isLeftOut 16 = .ok (.getfield 37, 3) := by decide +kernel
theorem dX0_isLeftOut_19 : decode cX0_isLeftOut 19 = .ok (.iconst 1, 1) := by decide +kernel
theorem dX0_isLeftOut_20 : decode cX0_isLeftOut 20 = .ok (.iadd, 1) := by decide +kernel
theorem dX0_isLeftOut_21 : decode cX0_isLeftOut 21 = .ok (.putfield 37, 3) := by decide +kernel
theorem dX0_isLeftOut_24 : decode cX0_isLeftOut 24 = .ok (.iconst 1, 1) := by decide +kernel
theorem dX0_isLeftOut_25 : decode cX0_isLeftOut 25 = .ok (.ireturn, 1) := by decide +kernel
theorem dX0_doStage_0 : decode cX0_doStage 0 = .ok (.iconst 0, 1) := by decide +kernel
theorem dX0_doStage_1 : decode cX0_doStage 1 = .ok (.istore 4, 2) := by decide +kernel
theorem dX0_doStage_3 : decode cX0_doStage 3 = .ok (.iload 4, 2) := by decide +kernel
theorem dX0_doStage_5 : decode cX0_doStage 5 = .ok (.aload_n 0, 1) := by decide +kernel
theorem dX0_doStage_6 : decode cX0_doStage 6 = .ok (.getfield 43, 3) := by decide +kernel
theorem dX0_doStage_9 : decode cX0_doStage 9 = .ok (.invokevirtual 89, 3) := by decide +kernel
theorem dX0_doStage_12 : decode cX0_doStage 12 = .ok (.if_icmp .ge 35, 3) := by decide +kernel
theorem dX0_doStage_15 : decode cX0_doStage 15 = .ok (.aload_n 0, 1) := by decide +kernel
theorem dX0_doStage_16 : decode cX0_doStage 16 = .ok (.iload 4, 2) := by decide +kernel
theorem dX0_doStage_18 : decode cX0_doStage 18 = .ok (.iload_n 1, 1) := by decide +kernel
theorem dX0_doStage_19 : decode cX0_doStage 19 = .ok (.iload_n 2, 1) := by decide +kernel
theorem dX0_doStage_20 : decode cX0_doStage 20 = .ok (.invokevirtual 143, 3) := by decide +kernel
theorem dX0_doStage_23 : decode cX0_doStage 23 = .ok (.ifCond .eq 18, 3) := by decide +kernel
theorem dX0_doStage_26 : decode cX0_doStage 26 = .ok (.aload_n 0, 1) := by decide +kernel
theorem dX0_doStage_27 : decode cX0_doStage 27 = .ok (.iload 4, 2) := by decide +kernel
theorem dX0_doStage_29 : decode cX0_doStage 29 = .ok (.iload_n 2, 1) := by decide +kernel
theorem dX0_doStage_30 : decode cX0_doStage 30 = .ok (.iload_n 3, 1) := by decide +kernel
theorem dX0_doStage_31 : decode cX0_doStage 31 = .ok (.iconst 1, 1) := by decide +kernel
theorem dX0_doStage_32 : decode cX0_doStage 32 = .ok (.iadd, 1) := by decide +kernel
theorem dX0_doStage_33 : decode cX0_doStage 33 = .ok (.invokevirtual 97, 3) := by decide +kernel
theorem dX0_doStage_36 : decode cX0_doStage 36 = .ok (.ifCond .ne 5, 3) := by decide +kernel
theorem dX0_doStage_39 : decode cX0_doStage 39 = .ok (.iconst 0, 1) := by decide +kernel
theorem dX0_doStage_40 : decode cX0_doStage 40 = .ok (.ireturn, 1) := by decide +kernel
theorem dX0_doStage_41 : decode cX0_doStage 41 = .ok (.iinc 4 1, 3) := by decide +kernel
theorem dX0_doStage_44 : decode cX0_doStage 44 = .ok (.goto (-41), 3) := by decide +kernel
theorem dX0_doStage_47 : decode cX0_doStage 47 = .ok (.iconst 1, 1) := by decide +kernel
theorem dX0_doStage_48 : decode cX0_doStage 48 = .ok (.ireturn, 1) := by decide +kernel
theorem dX0_queueLastStage_0 : decode cX0_queueLastStage 0 = .ok (.iconst 0, 1) := by decide +kernel
theorem dX0_queueLastStage_1 : decode cX0_queueLastStage 1 = .ok (.istore_n 2, 1) := by decide +kernel
theorem dX0_queueLastStage_2 : decode cX0_queueLastStage 2 = .ok (.iload_n 2, 1) := by decide +kernel
theorem dX0_queueLastStage_3 : decode cX0_queueLastStage 3 = .ok (.aload_n 0, 1) := by decide +kernel
theorem dX0_queueLastStage_4 : decode cX0_queueLastStage 4 = .ok (.getfield 43, 3) := by decide +kernel
theorem dX0_queueLastStage_7 : decode cX0_queueLastStage 7 = .ok (.invokevirtual 89, 3) := by decide +kernel
theorem dX0_queueLastStage_10 : decode cX0_queueLastStage 10 = .ok (.if_icmp .ge 47, 3) := by decide +kernel
theorem dX0_queueLastStage_13 : decode cX0_queueLastStage 13 = .ok (.aload_n 0, 1) := by decide +kernel
theorem dX0_queueLastStage_14 : decode cX0_queueLastStage 14 = .ok (.iload_n 2, 1) := by decide +kernel
theorem dX0_queueLastStage_15 : decode cX0_queueLastStage 15 = .ok (.iconst 2, 1) := by decide +kernel
theorem dX0_queueLastStage_16 : decode cX0_queueLastStage 16 = .ok (.iload_n 1, 1) := by decide +kernel
theorem dX0_queueLastStage_17 : decode cX0_queueLastStage 17 = .ok (.invokevirtual 143, 3) := by decide +kernel
theorem dX0_queueLastStage_20 : decode cX0_queueLastStage 20 = .ok (.ifCond .eq 31, 3) := by decide +kernel
theorem dX0_queueLastStage_23 : decode cX0_queueLastStage 23 = .ok (.aload_n 0, 1) := by decide +kernel
theorem dX0_queueLastStage_24 : decode cX0_queueLastStage 24 = .ok (.getfield 46, 3) := by decide +kernel
theorem dX0_queueLastStage_27 : decode cX0_queueLastStage 27 = .ok (.invokevirtual 136, 3) := by decide +kernel
theorem dX0_queueLastStage_30 : decode cX0_queueLastStage 30 = .ok (.istore_n 3, 1) := by decide +kernel
theorem dX0_queueLastStage_31 : decode cX0_queueLastStage 31 = .ok (.aload_n 0, 1) := by decide +kernel
theorem dX0_queueLastStage_32 : decode cX0_queueLastStage 32 = .ok (.getfield 46, 3) := by decide +kernel
theorem dX0_queueLastStage_35 : decode cX0_queueLastStage 35 = .ok (.iload_n 3, 1) := by decide +kernel
theorem dX0_queueLastStage_36 : decode cX0_queueLastStage 36 = .ok (.iconst 0, 1) := by decide +kernel
theorem dX0_queueLastStage_37 : decode cX0_queueLastStage 37 = .ok (.iload_n 2, 1) := by decide +kernel
theorem dX0_queueLastStage_38 : decode cX0_queueLastStage 38 = .ok (.invokevirtual 139, 3) := by decide +kernel
theorem dX0_queueLastStage_41 : decode cX0_queueLastStage 41 = .ok (.aload_n 0, 1) := by decide +kernel
theorem dX0_queueLastStage_42 : decode cX0_queueLastStage 42 = .ok (.getfield 46, 3) := by decide +kernel
theorem dX0_queueLastStage_45 : decode cX0_queueLastStage 45 = .ok (.iload_n 3, 1) := by decide +kernel
theorem dX0_queueLastStage_46 : decode cX0_queueLastStage 46 = .ok (.iconst 1, 1) := by decide +kernel
theorem dX0_queueLastStage_47 : decode cX0_queueLastStage 47 = .ok (.iload_n 1, 1) := by decide +kernel
theorem dX0_queueLastStage_48 : decode cX0_queueLastStage 48 = .ok (.invokevirtual 139, 3) := by decide +kernel
theorem dX0_queueLastStage_51 : decode cX0_queueLastStage 51 = .ok (.iinc 2 1, 3) := by decide +kernel
theorem dX0_queueLastStage_54 : decode cX0_queueLastStage 54 = .ok (.goto (-52), 3) := by decide +kernel
theorem dX0_queueLastStage_57 : decode cX0_queueLastStage 57 = .ok (.return_, 1) := by decide +kernel
theorem dX0_isSetOff_0 : decode cX0_isSetOff 0 = .ok (.iload_n 1, 1) := by decide +kernel
theorem dX0_isSetOff_1 : decode cX0_isSetOff 1 = .ok (.aload_n 0, 1) := by decide +kernel
theorem dX0_isSetOff_2 : decode cX0_isSetOff 2 = .ok (.getfield 56, 3) := by decide +kernel
theorem dX0_isSetOff_5 : decode cX0_isSetOff 5 = .ok (.if_icmp .eq 83, 3) := by decide +kernel
theorem dX0_isSetOff_8 : decode cX0_isSetOff 8 = .ok (.aload_n 0, 1) := by decide +kernel
theorem dX0_isSetOff_9 : decode cX0_isSetOff 9 = .ok (.getfield 43, 3) := by decide +kernel
theorem dX0_isSetOff_12 : decode cX0_isSetOff 12 = .ok (.iload_n 1, 1) := by decide +kernel
theorem dX0_isSetOff_13 : decode cX0_isSetOff 13 = .ok (.iconst 2, 1) := by decide +kernel
theorem dX0_isSetOff_14 : decode cX0_isSetOff 14 = .ok (.invokevirtual 93, 3) := by decide +kernel
theorem dX0_isSetOff_17 : decode cX0_isSetOff 17 = .ok (.iload_n 2, 1) := by decide +kernel
theorem dX0_isSetOff_18 : decode cX0_isSetOff 18 = .ok (.if_icmp .ne 70, 3) := by decide +kernel
theorem dX0_isSetOff_21 : decode cX0_isSetOff 21 = .ok (.aload_n 0, 1) := by decide +kernel
theorem dX0_isSetOff_22 : decode cX0_isSetOff 22 = .ok (.getfield 43, 3) := by decide +kernel
theorem dX0_isSetOff_25 : decode cX0_isSetOff 25 = .ok (.iload_n 1, 1) := by decide +kernel
theorem dX0_isSetOff_26 : decode cX0_isSetOff 26 = .ok (.iconst 0, 1) := by decide +kernel
theorem dX0_isSetOff_27 : decode cX0_isSetOff 27 = .ok (.invokevirtual 93, 3) := by decide +kernel
theorem dX0_isSetOff_30 : decode cX0_isSetOff 30 = .ok (.aload_n 0, 1) := by decide +kernel
theorem dX0_isSetOff_31 : decode cX0_isSetOff 31 = .ok (.getfield 27, 3) := by decide +kernel
theorem dX0_isSetOff_34 : decode cX0_isSetOff 34 = .ok (.iload_n 3, 1) := by decide +kernel
theorem dX0_isSetOff_35 : decode cX0_isSetOff 35 = .ok (.iconst 1, 1) := by decide +kernel
theorem dX0_isSetOff_36 : decode cX0_isSetOff 36 = .ok (.invokevirtual 93, 3) := by decide +kernel
theorem dX0_isSetOff_39 : decode cX0_isSetOff 39 = .ok (.if_icmp .ne 49, 3) := by decide +kernel
theorem dX0_isSetOff_42 : decode cX0_isSetOff 42 = .ok (.aload_n 0, 1) := by decide +kernel
theorem dX0_isSetOff_43 : decode cX0_isSetOff 43 = .ok (.getfield 43, 3) := by decide +kernel
theorem dX0_isSetOff_46 : decode cX0_isSetOff 46 = .ok (.iload_n 1, 1) := by decide +kernel
theorem dX0_isSetOff_47 : decode cX0_isSetOff 47 = .ok (.iconst 1, 1) := by decide +kernel
theorem dX0_isSetOff_48 : decode cX0_isSetOff 48 = .ok (.invokevirtual 93, 3) := by decide +kernel
theorem dX0_isSetOff_51 : decode cX0_isSetOff 51 = .ok (.aload_n 0, 1) := by decide +kernel
theorem dX0_isSetOff_52 : decode cX0_isSetOff 52 = .ok (.getfield 27, 3) := by decide +kernel
theorem dX0_isSetOff_55 : decode cX0_isSetOff 55 = .ok (.iload_n 3, 1) := by decide +kernel
theorem dX0_isSetOff_56 : decode cX0_isSetOff 56 = .ok (.iconst 0, 1) := by decide +kernel
theorem dX0_isSetOff_57 : decode cX0_isSetOff 57 = .ok (.invokevirtual 93, 3) := by decide +kernel
theorem dX0_isSetOff_60 : decode cX0_isSetOff 60 = .ok (.if_icmp .ne 28, 3) := by decide +kernel
theorem dX0_isSetOff_63 : decode cX0_isSetOff 63 = .ok (.aload_n 0, 1) := by decide +kernel
theorem dX0_isSetOff_64 : decode cX0_isSetOff 64 = .ok (.getfield 43, 3) := by decide +kernel
theorem dX0_isSetOff_67 : decode cX0_isSetOff 67 = .ok (.iload_n 1, 1) := by decide +kernel
theorem dX0_isSetOff_68 : decode cX0_isSetOff 68 = .ok (.iconst 3, 1) := by decide +kernel
theorem dX0_isSetOff_69 : decode cX0_isSetOff 69 = .ok (.invokevirtual 93, 3) := by decide +kernel
theorem dX0_isSetOff_72 : decode cX0_isSetOff 72 = .ok (.aload_n 0, 1) := by decide +kernel
theorem dX0_isSetOff_73 : decode cX0_isSetOff 73 = .ok (.getfield 27, 3) := by decide +kernel
theorem dX0_isSetOff_76 : decode cX0_isSetOff 76 = .ok (.iload_n 3, 1) := by decide +kernel
theorem dX0_isSetOff_77 : decode cX0_isSetOff 77 = .ok (.iconst 3, 1) := by decide +kernel
theorem dX0_isSetOff_78 : decode cX0_isSetOff 78 = .ok (.invokevirtual 93, 3) := by decide +kernel
theorem dX0_isSetOff_81 : decode cX0_isSetOff 81 = .ok (.if_icmp .gt 7, 3) := by decide +kernel
theorem dX0_isSetOff_84 : decode cX0_isSetOff 84 = .ok (.iconst 1, 1) := by decide +kernel
theorem dX0_isSetOff_85 : decode cX0_isSetOff 85 = .ok (.goto 4, 3) := by decide +kernel
theorem dX0_isSetOff_88 : decode cX0_isSetOff 88 = .ok (.iconst 0, 1) := by decide +kernel
theorem dX0_isSetOff_89 : decode cX0_isSetOff 89 = .ok (.ireturn, 1) := by decide +kernel
theorem dX0_doDeed_0 : decode cX0_doDeed 0 = .ok (.aload_n 0, 1) := by decide +kernel
theorem dX0_doDeed_1 : decode cX0_doDeed 1 = .ok (.getfield 43, 3) := by decide +kernel
theorem dX0_doDeed_4 : decode cX0_doDeed 4 = .ok (.iload_n 1, 1) := by decide +kernel
theorem dX0_doDeed_5 : decode cX0_doDeed 5 = .ok (.iconst 4, 1) := by decide +kernel
theorem dX0_doDeed_6 : decode cX0_doDeed 6 = .ok (.invokevirtual 93, 3) := by decide +kernel
theorem dX0_doDeed_9 : decode cX0_doDeed 9 = .ok (.istore 4, 2) := by decide +kernel
theorem dX0_doDeed_11 : decode cX0_doDeed 11 = .ok (.aload_n 0, 1) := by decide +kernel
theorem dX0_doDeed_12 : decode cX0_doDeed 12 = .ok (.getfield 27, 3) := by decide +kernel
theorem dX0_doDeed_15 : decode cX0_doDeed 15 = .ok (.iload_n 2, 1) := by decide +kernel
theorem dX0_doDeed_16 : decode cX0_doDeed 16 = .ok (.iconst 2, 1) := by decide +kernel
theorem dX0_doDeed_17 : decode cX0_doDeed 17 = .ok (.invokevirtual 93, 3) := by decide +kernel
theorem dX0_doDeed_20 : decode cX0_doDeed 20 = .ok (.istore 5, 2) := by decide +kernel
theorem dX0_doDeed_22 : decode cX0_doDeed 22 = .ok (.iload 4, 2) := by decide +kernel
theorem dX0_doDeed_24 : decode cX0_doDeed 24 = .ok (.ifCond .ne 29, 3) := by decide +kernel
theorem dX0_doDeed_27 : decode cX0_doDeed 27 = .ok (.aload_n 0, 1) := by decide +kernel
theorem dX0_doDeed_28 : decode cX0_doDeed 28 = .ok (.getfield 33, 3) := by decide +kernel
theorem dX0_doDeed_31 : decode cX0_doDeed 31 = .ok (.iconst 5, 1) := by decide +kernel
theorem dX0_doDeed_32 : decode cX0_doDeed 32 = .ok (.aload_n 0, 1) := by decide +kernel
theorem dX0_doDeed_33 : decode cX0_doDeed 33 = .ok (.getfield 27, 3) := by decide +kernel
theorem dX0_doDeed_36 : decode cX0_doDeed 36 = .ok (.iload_n 2, 1) := by decide +kernel
theorem dX0_doDeed_37 : decode cX0_doDeed 37 = .ok (.iconst 1, 1) := by decide +kernel
theorem dX0_doDeed_38 : decode cX0_doDeed 38 = .ok (.invokevirtual 93, 3) := by decide +kernel
theorem dX0_doDeed_41 : decode cX0_doDeed 41 = .ok (.iload 5, 2) := by decide +kernel
theorem dX0_doDeed_43 : decode cX0_doDeed 43 = .ok (.aload_n 0, 1) := by decide +kernel
theorem dX0_doDeed_44 : decode cX0_doDeed 44 = .ok (.getfield 27, 3) := by decide +kernel
theorem dX0_doDeed_47 : decode cX0_doDeed 47 = .ok (.iload_n 2, 1) := by decide +kernel
theorem dX0_doDeed_48 : decode cX0_doDeed 48 = .ok (.iload_n 1, 1) := by decide +kernel
theorem dX0_doDeed_49 : decode cX0_doDeed 49 = .ok (.invokevirtual 106, 3) := by decide +kernel
theorem dX0_doDeed_52 : decode cX0_doDeed 52 = .ok (.ireturn, 1) := by decide +kernel
theorem dX0_doDeed_53 : decode cX0_doDeed 53 = .ok (.iload 5, 2) := by decide +kernel
theorem dX0_doDeed_55 : decode cX0_doDeed 55 = .ok (.aload_n 0, 1) := by decide +kernel
theorem dX0_doDeed_56 : decode cX0_doDeed 56 = .ok (.getfield 43, 3) := by decide +kernel
theorem dX0_doDeed_59 : decode cX0_doDeed 59 = .ok (.iload_n 1, 1) := by decide +kernel
theorem dX0_doDeed_60 : decode cX0_doDeed 60 = .ok (.bipush 6, 2) := by decide +kernel
theorem dX0_doDeed_62 : decode cX0_doDeed 62 = .ok (.invokevirtual 93, 3) := by decide +kernel
theorem dX0_doDeed_65 : decode cX0_doDeed 65 = .ok (.iadd, 1) := by decide +kernel
theorem dX0_doDeed_66 : decode cX0_doDeed 66 = .ok (.bipush 100, 2) := by decide +kernel
theorem dX0_doDeed_68 : decode cX0_doDeed 68 = .ok (.irem, 1) := by decide +kernel
theorem dX0_doDeed_69 : decode cX0_doDeed 69 = .ok (.istore 6, 2) := by decide +kernel
theorem dX0_doDeed_71 : decode cX0_doDeed 71 = .ok (.aload_n 0, 1) := by decide +kernel
theorem dX0_doDeed_72 : decode cX0_doDeed 72 = .ok (.iload 4, 2) := by decide +kernel
theorem dX0_doDeed_74 : decode cX0_doDeed 74 = .ok (.iconst 1, 1) := by decide +kernel
theorem dX0_doDeed_75 : decode cX0_doDeed 75 = .ok (.isub, 1) := by decide +kernel
theorem dX0_doDeed_76 : decode cX0_doDeed 76 = .ok (.aload_n 0, 1) := by decide +kernel
theorem dX0_doDeed_77 : decode cX0_doDeed 77 = .ok (.getfield 43, 3) := by decide +kernel
theorem dX0_doDeed_80 : decode cX0_doDeed 80 = .ok (.iload_n 1, 1) := by decide +kernel
theorem dX0_doDeed_81 : decode cX0_doDeed 81 = .ok (.iconst 5, 1) := by decide +kernel
theorem dX0_doDeed_82 : decode cX0_doDeed 82 = .ok (.invokevirtual 93, 3) := by decide +kernel
theorem dX0_doDeed_85 : decode cX0_doDeed 85 = .ok (.iload 6, 2) := by decide +kernel
theorem dX0_doDeed_87 : decode cX0_doDeed 87 = .ok (.aload_n 0, 1) := by decide +kernel
theorem dX0_doDeed_88 : decode cX0_doDeed 88 = .ok (.getfield 43, 3) := by decide +kernel
theorem dX0_doDeed_91 : decode cX0_doDeed 91 = .ok (.iload_n 1, 1) := by decide +kernel
theorem dX0_doDeed_92 : decode cX0_doDeed 92 = .ok (.bipush 7, 2) := by decide +kernel
theorem dX0_doDeed_94 : decode cX0_doDeed 94 = .ok (.invokevirtual 93, 3) := by decide +kernel
theorem dX0_doDeed_97 : decode cX0_doDeed 97 = .ok (.iload_n 3, 1) := by decide +kernel
theorem dX0_doDeed_98 : decode cX0_doDeed 98 = .ok (.iload_n 2, 1) := by decide +kernel
theorem dX0_doDeed_99 : decode cX0_doDeed 99 = .ok (.iload_n 1, 1) := by decide +kernel
theorem dX0_doDeed_100 : decode cX0_doDeed 100 = .ok (.invokevirtual 85, 3) := by decide +kernel
theorem dX0_doDeed_103 : decode cX0_doDeed 103 = .ok (.ireturn, 1) := by decide +kernel
theorem dX1_init_0 : decode cX1_init 0 = .ok (.aload_n 0, 1) := by decide +kernel
theorem dX1_init_1 : decode cX1_init 1 = .ok (.invokespecial 3, 3) := by decide +kernel
theorem dX1_init_4 : decode cX1_init 4 = .ok (.aload_n 0, 1) := by decide +kernel
theorem dX1_init_5 : decode cX1_init 5 = .ok (.iconst 0, 1) := by decide +kernel
theorem dX1_init_6 : decode cX1_init 6 = .ok (.putfield 9, 3) := by decide +kernel
theorem dX1_init_9 : decode cX1_init 9 = .ok (.aload_n 0, 1) := by decide +kernel
theorem dX1_init_10 : decode cX1_init 10 = .ok (.bipush (-6), 2) := by decide +kernel
theorem dX1_init_12 : decode cX1_init 12 = .ok (.putfield 15, 3) := by decide +kernel
theorem dX1_init_15 : decode cX1_init 15 = .ok (.aload_n 0, 1) := by decide +kernel
theorem dX1_init_16 : decode cX1_init 16 = .ok (.bipush (-6), 2) := by decide +kernel
theorem dX1_init_18 : decode cX1_init 18 = .ok (.putfield 18, 3) := by decide +kernel
theorem dX1_init_21 : decode cX1_init 21 = .ok (.aload_n 0, 1) := by decide +kernel
theorem dX1_init_22 : decode cX1_init 22 = .ok (.iconst 0, 1) := by decide +kernel
theorem dX1_init_23 : decode cX1_init 23 = .ok (.putfield 21, 3) := by decide +kernel
theorem dX1_init_26 : decode cX1_init 26 = .ok (.aload_n 0, 1) := by decide +kernel
theorem dX1_init_27 : decode cX1_init 27 = .ok (.bipush 9, 2) := by decide +kernel
theorem dX1_init_29 : decode cX1_init 29 = .ok (.newarray .int, 2) := by decide +kernel
theorem dX1_init_31 : decode cX1_init 31 = .ok (.putfield 24, 3) := by decide +kernel
theorem dX1_init_34 : decode cX1_init 34 = .ok (.return_, 1) := by decide +kernel
theorem dX1_clear_0 : decode cX1_clear 0 = .ok (.aload_n 0, 1) := by decide +kernel
theorem dX1_clear_1 : decode cX1_clear 1 = .ok (.iconst 0, 1) := by decide +kernel
theorem dX1_clear_2 : decode cX1_clear 2 = .ok (.putfield 9, 3) := by decide +kernel
theorem dX1_clear_5 : decode cX1_clear 5 = .ok (.aload_n 0, 1) := by decide +kernel
theorem dX1_clear_6 : decode cX1_clear 6 = .ok (.bipush (-6), 2) := by decide +kernel
theorem dX1_clear_8 : decode cX1_clear 8 = .ok (.putfield 15, 3) := by decide +kernel
theorem dX1_clear_11 : decode cX1_clear 11 = .ok (.aload_n 0, 1) := by decide +kernel
theorem dX1_clear_12 : decode cX1_clear 12 = .ok (.bipush (-6), 2) := by decide +kernel
theorem dX1_clear_14 : decode cX1_clear 14 = .ok (.putfield 18, 3) := by decide +kernel
theorem dX1_clear_17 : decode cX1_clear 17 = .ok (.aload_n 0, 1) := by decide +kernel
theorem dX1_clear_18 : decode cX1_clear 18 = .ok (.iconst 0, 1) := by decide +kernel
theorem dX1_clear_19 : decode cX1_clear 19 = .ok (.putfield 21, 3) := by decide +kernel
theorem dX1_clear_22 : decode cX1_clear 22 = .ok (.return_, 1) := by decide +kernel
theorem dX1_isThere_0 : decode cX1_isThere 0 = .ok (.aload_n 0, 1) := by decide +kernel
theorem dX1_isThere_1 : decode cX1_isThere 1 = .ok (.getfield 9, 3) := by decide +kernel
theorem dX1_isThere_4 : decode cX1_isThere 4 = .ok (.ifCond .eq 7, 3) := by decide +kernel
theorem dX1_isThere_7 : decode cX1_isThere 7 = .ok (.iconst 1, 1) := by decide +kernel
theorem dX1_isThere_8 : decode cX1_isThere 8 = .ok (.goto 4, 3) := by decide +kernel
theorem dX1_isThere_11 : decode cX1_isThere 11 = .ok (.iconst 0, 1) := by decide +kernel
theorem dX1_isThere_12 : decode cX1_isThere 12 = .ok (.ireturn, 1) := by decide +kernel
theorem dX1_blamedAt_0 : decode cX1_blamedAt 0 = .ok (.iload_n 1, 1) := by decide +kernel
theorem dX1_blamedAt_1 : decode cX1_blamedAt 1 = .ok (.aload_n 0, 1) := by decide +kernel
theorem dX1_blamedAt_2 : decode cX1_blamedAt 2 = .ok (.getfield 21, 3) := by decide +kernel
theorem dX1_blamedAt_5 : decode cX1_blamedAt 5 = .ok (.invokestatic 28, 3) := by decide +kernel
theorem dX1_blamedAt_8 : decode cX1_blamedAt 8 = .ok (.ifCond .eq 18, 3) := by decide +kernel
theorem dX1_blamedAt_11 : decode cX1_blamedAt 11 = .ok (.iload_n 1, 1) := by decide +kernel
theorem dX1_blamedAt_12 : decode cX1_blamedAt 12 = .ok (.bipush 9, 2) := by decide +kernel
theorem dX1_blamedAt_14 : decode cX1_blamedAt 14 = .ok (.if_icmp .ge 12, 3) := by decide +kernel
theorem dX1_blamedAt_17 : decode cX1_blamedAt 17 = .ok (.aload_n 0, 1) := by decide +kernel
theorem dX1_blamedAt_18 : decode cX1_blamedAt 18 = .ok (.getfield 24, 3) := by decide +kernel
theorem dX1_blamedAt_21 : decode cX1_blamedAt 21 = .ok (.iload_n 1, 1) := by decide +kernel
theorem dX1_blamedAt_22 : decode cX1_blamedAt 22 = .ok (.iaload, 1) := by decide +kernel
theorem dX1_blamedAt_23 : decode cX1_blamedAt 23 = .ok (.goto 5, 3) := by decide +kernel
theorem dX1_blamedAt_26 : decode cX1_blamedAt 26 = .ok (.bipush (-6), 2) := by decide +kernel
theorem dX1_blamedAt_28 : decode cX1_blamedAt 28 = .ok (.ireturn, 1) := by decide +kernel
theorem dX1_tell_0 : decode cX1_tell 0 = .ok (.aload_n 0, 1) := by decide +kernel
theorem dX1_tell_1 : decode cX1_tell 1 = .ok (.iload_n 1, 1) := by decide +kernel
theorem dX1_tell_2 : decode cX1_tell 2 = .ok (.putfield 9, 3) := by decide +kernel
theorem dX1_tell_5 : decode cX1_tell 5 = .ok (.aload_n 0, 1) := by decide +kernel
theorem dX1_tell_6 : decode cX1_tell 6 = .ok (.iload_n 2, 1) := by decide +kernel
theorem dX1_tell_7 : decode cX1_tell 7 = .ok (.putfield 15, 3) := by decide +kernel
theorem dX1_tell_10 : decode cX1_tell 10 = .ok (.aload_n 0, 1) := by decide +kernel
theorem dX1_tell_11 : decode cX1_tell 11 = .ok (.iload_n 3, 1) := by decide +kernel
theorem dX1_tell_12 : decode cX1_tell 12 = .ok (.putfield 18, 3) := by decide +kernel
theorem dX1_tell_15 : decode cX1_tell 15 = .ok (.aload_n 0, 1) := by decide +kernel
theorem dX1_tell_16 : decode cX1_tell 16 = .ok (.iload 5, 2) := by decide +kernel
theorem dX1_tell_18 : decode cX1_tell 18 = .ok (.iconst (-1), 1) := by decide +kernel
theorem dX1_tell_19 : decode cX1_tell 19 = .ok (.if_icmp .ne 7, 3) := by decide +kernel
theorem dX1_tell_22 : decode cX1_tell 22 = .ok (.iconst 0, 1) := by decide +kernel
theorem dX1_tell_23 : decode cX1_tell 23 = .ok (.goto 18, 3) := by decide +kernel
theorem dX1_tell_26 : decode cX1_tell 26 = .ok (.aload 4, 2) := by decide +kernel
theorem dX1_tell_28 : decode cX1_tell 28 = .ok (.iload 5, 2) := by decide +kernel
theorem dX1_tell_30 : decode cX1_tell 30 = .ok (.iconst 4, 1) := by decide +kernel
theorem dX1_tell_31 : decode cX1_tell 31 = .ok (.invokevirtual 34, 3) := by decide +kernel
theorem dX1_tell_34 : decode cX1_tell 34 = .ok (.iconst 1, 1) := by decide +kernel
theorem dX1_tell_35 : decode cX1_tell 35 = .ok (.iadd, 1) := by decide +kernel
theorem dX1_tell_36 : decode cX1_tell 36 = .ok (.bipush 9, 2) := by decide +kernel
theorem dX1_tell_38 : decode cX1_tell 38 = .ok (.invokestatic 40, 3) := by decide +kernel
theorem dX1_tell_41 : decode cX1_tell 41 = .ok (.putfield 21, 3) := by decide +kernel
theorem dX1_tell_44 : decode cX1_tell 44 = .ok (.iload 5, 2) := by decide +kernel
theorem dX1_tell_46 : decode cX1_tell 46 = .ok (.istore 7, 2) := by decide +kernel
theorem dX1_tell_48 : decode cX1_tell 48 = .ok (.iload 6, 2) := by decide +kernel
theorem dX1_tell_50 : decode cX1_tell 50 = .ok (.istore 8, 2) := by decide +kernel
theorem dX1_tell_52 : decode cX1_tell 52 = .ok (.aload_n 0, 1) := by decide +kernel
theorem dX1_tell_53 : decode cX1_tell 53 = .ok (.getfield 21, 3) := by decide +kernel
theorem dX1_tell_56 : decode cX1_tell 56 = .ok (.iconst 1, 1) := by decide +kernel
theorem dX1_tell_57 : decode cX1_tell 57 = .ok (.isub, 1) := by decide +kernel
theorem dX1_tell_58 : decode cX1_tell 58 = .ok (.istore 9, 2) := by decide +kernel
theorem dX1_tell_60 : decode cX1_tell 60 = .ok (.iload 9, 2) := by decide +kernel
theorem dX1_tell_62 : decode cX1_tell 62 = .ok (.ifCond .lt 39, 3) := by decide +kernel
theorem dX1_tell_65 : decode cX1_tell 65 = .ok (.aload_n 0, 1) := by decide +kernel
theorem dX1_tell_66 : decode cX1_tell 66 = .ok (.getfield 24, 3) := by decide +kernel
theorem dX1_tell_69 : decode cX1_tell 69 = .ok (.iload 9, 2) := by decide +kernel
theorem dX1_tell_71 : decode cX1_tell 71 = .ok (.iload 8, 2) := by decide +kernel
theorem dX1_tell_73 : decode cX1_tell 73 = .ok (.iastore, 1) := by decide +kernel
theorem dX1_tell_74 : decode cX1_tell 74 = .ok (.aload 4, 2) := by decide +kernel
theorem dX1_tell_76 : decode cX1_tell 76 = .ok (.iload 7, 2) := by decide +kernel
theorem dX1_tell_78 : decode cX1_tell 78 = .ok (.iconst 5, 1) := by decide +kernel
theorem dX1_tell_79 : decode cX1_tell 79 = .ok (.invokevirtual 34, 3) := by decide +kernel
theorem dX1_tell_82 : decode cX1_tell 82 = .ok (.istore 8, 2) := by decide +kernel
theorem dX1_tell_84 : decode cX1_tell 84 = .ok (.aload 4, 2) := by decide +kernel
theorem dX1_tell_86 : decode cX1_tell 86 = .ok (.iload 7, 2) := by decide +kernel
theorem dX1_tell_88 : decode cX1_tell 88 = .ok (.bipush 6, 2) := by decide +kernel
theorem dX1_tell_90 : decode cX1_tell 90 = .ok (.invokevirtual 34, 3) := by decide +kernel
theorem dX1_tell_93 : decode cX1_tell 93 = .ok (.istore 7, 2) := by decide +kernel
theorem dX1_tell_95 : decode cX1_tell 95 = .ok (.iinc 9 (-1), 3) := by decide +kernel
theorem dX1_tell_98 : decode cX1_tell 98 = .ok (.goto (-38), 3) := by decide +kernel
theorem dX1_tell_101 : decode cX1_tell 101 = .ok (.iconst 0, 1) := by decide +kernel
theorem dX1_tell_102 : decode cX1_tell 102 = .ok (.ireturn, 1) := by decide +kernel
theorem dX2_init_0 : decode cX2_init 0 = .ok (.aload_n 0, 1) := by decide +kernel
theorem dX2_init_1 : decode cX2_init 1 = .ok (.invokespecial 3, 3) := by decide +kernel
theorem dX2_init_4 : decode cX2_init 4 = .ok (.aload_n 0, 1) := by decide +kernel
theorem dX2_init_5 : decode cX2_init 5 = .ok (.bipush 6, 2) := by decide +kernel
theorem dX2_init_7 : decode cX2_init 7 = .ok (.anewarray 9, 3) := by decide +kernel
theorem dX2_init_10 : decode cX2_init 10 = .ok (.putfield 11, 3) := by decide +kernel
theorem dX2_init_13 : decode cX2_init 13 = .ok (.aload_n 0, 1) := by decide +kernel
theorem dX2_init_14 : decode cX2_init 14 = .ok (.iconst 0, 1) := by decide +kernel
theorem dX2_init_15 : decode cX2_init 15 = .ok (.putfield 17, 3) := by decide +kernel
theorem dX2_init_18 : decode cX2_init 18 = .ok (.aload_n 0, 1) := by decide +kernel
theorem dX2_init_19 : decode cX2_init 19 = .ok (.iconst 0, 1) := by decide +kernel
theorem dX2_init_20 : decode cX2_init 20 = .ok (.putfield 21, 3) := by decide +kernel
theorem dX2_init_23 : decode cX2_init 23 = .ok (.return_, 1) := by decide +kernel
theorem dX2_size_0 : decode cX2_size 0 = .ok (.aload_n 0, 1) := by decide +kernel
theorem dX2_size_1 : decode cX2_size 1 = .ok (.getfield 21, 3) := by decide +kernel
theorem dX2_size_4 : decode cX2_size 4 = .ok (.ireturn, 1) := by decide +kernel
theorem dX2_keep_0 : decode cX2_keep 0 = .ok (.aload_n 0, 1) := by decide +kernel
theorem dX2_keep_1 : decode cX2_keep 1 = .ok (.getfield 21, 3) := by decide +kernel
theorem dX2_keep_4 : decode cX2_keep 4 = .ok (.bipush 6, 2) := by decide +kernel
theorem dX2_keep_6 : decode cX2_keep 6 = .ok (.if_icmp .ne 26, 3) := by decide +kernel
theorem dX2_keep_9 : decode cX2_keep 9 = .ok (.aload_n 0, 1) := by decide +kernel
theorem dX2_keep_10 : decode cX2_keep 10 = .ok (.aload_n 0, 1) := by decide +kernel
theorem dX2_keep_11 : decode cX2_keep 11 = .ok (.getfield 17, 3) := by decide +kernel
theorem dX2_keep_14 : decode cX2_keep 14 = .ok (.iconst 1, 1) := by decide +kernel
theorem dX2_keep_15 : decode cX2_keep 15 = .ok (.iadd, 1) := by decide +kernel
theorem dX2_keep_16 : decode cX2_keep 16 = .ok (.bipush 6, 2) := by decide +kernel
theorem dX2_keep_18 : decode cX2_keep 18 = .ok (.irem, 1) := by decide +kernel
theorem dX2_keep_19 : decode cX2_keep 19 = .ok (.putfield 17, 3) := by decide +kernel
theorem dX2_keep_22 : decode cX2_keep 22 = .ok (.aload_n 0, 1) := by decide +kernel
theorem dX2_keep_23 : decode cX2_keep 23 = .ok (.dup, 1) := by decide +kernel
theorem dX2_keep_24 : decode cX2_keep 24 = .ok (.getfield 21, 3) := by decide +kernel
theorem dX2_keep_27 : decode cX2_keep 27 = .ok (.iconst 1, 1) := by decide +kernel
theorem dX2_keep_28 : decode cX2_keep 28 = .ok (.isub, 1) := by decide +kernel
theorem dX2_keep_29 : decode cX2_keep 29 = .ok (.putfield 21, 3) := by decide +kernel
theorem dX2_keep_32 : decode cX2_keep 32 = .ok (.aload_n 0, 1) := by decide +kernel
theorem dX2_keep_33 : decode cX2_keep 33 = .ok (.getfield 17, 3) := by decide +kernel
theorem dX2_keep_36 : decode cX2_keep 36 = .ok (.aload_n 0, 1) := by decide +kernel
theorem dX2_keep_37 : decode cX2_keep 37 = .ok (.getfield 21, 3) := by decide +kernel
theorem dX2_keep_40 : decode cX2_keep 40 = .ok (.iadd, 1) := by decide +kernel
theorem dX2_keep_41 : decode cX2_keep 41 = .ok (.bipush 6, 2) := by decide +kernel
theorem dX2_keep_43 : decode cX2_keep 43 = .ok (.irem, 1) := by decide +kernel
theorem dX2_keep_44 : decode cX2_keep 44 = .ok (.istore_n 2, 1) := by decide +kernel
theorem dX2_keep_45 : decode cX2_keep 45 = .ok (.iload_n 2, 1) := by decide +kernel
theorem dX2_keep_46 : decode cX2_keep 46 = .ok (.bipush 6, 2) := by decide +kernel
theorem dX2_keep_48 : decode cX2_keep 48 = .ok (.invokestatic 24, 3) := by decide +kernel
theorem dX2_keep_51 : decode cX2_keep 51 = .ok (.ifCond .ne 4, 3) := by decide +kernel
theorem dX2_keep_54 : decode cX2_keep 54 = .ok (.return_, 1) := by decide +kernel
theorem dX2_keep_55 : decode cX2_keep 55 = .ok (.aload_n 0, 1) := by decide +kernel
theorem dX2_keep_56 : decode cX2_keep 56 = .ok (.getfield 11, 3) := by decide +kernel
theorem dX2_keep_59 : decode cX2_keep 59 = .ok (.iload_n 2, 1) := by decide +kernel
theorem dX2_keep_60 : decode cX2_keep 60 = .ok (.aaload, 1) := by decide +kernel
theorem dX2_keep_61 : decode cX2_keep 61 = .ok (.astore_n 3, 1) := by decide +kernel
theorem dX2_keep_62 : decode cX2_keep 62 = .ok (.aload_n 3, 1) := by decide +kernel
theorem dX2_keep_63 : decode cX2_keep 63 = .ok (.ifnonnull 18, 3) := by decide +kernel
theorem dX2_keep_66 : decode cX2_keep 66 = .ok (.new 9, 3) := by decide +kernel
theorem dX2_keep_69 : decode cX2_keep 69 = .ok (.dup, 1) := by decide +kernel
theorem dX2_keep_70 : decode cX2_keep 70 = .ok (.invokespecial 28, 3) := by decide +kernel
theorem dX2_keep_73 : decode cX2_keep 73 = .ok (.astore_n 3, 1) := by decide +kernel
theorem dX2_keep_74 : decode cX2_keep 74 = .ok (.aload_n 0, 1) := by decide +kernel
theorem dX2_keep_75 : decode cX2_keep 75 = .ok (.getfield 11, 3) := by decide +kernel
theorem dX2_keep_78 : decode cX2_keep 78 = .ok (.iload_n 2, 1) := by decide +kernel
theorem dX2_keep_79 : decode cX2_keep 79 = .ok (.aload_n 3, 1) := by decide +kernel
theorem dX2_keep_80 : decode cX2_keep 80 = .ok (.aastore, 1) := by decide +kernel
theorem dX2_keep_81 : decode cX2_keep 81 = .ok (.aload_n 3, 1) := by decide +kernel
theorem dX2_keep_82 : decode cX2_keep 82 = .ok (.aload_n 1, 1) := by decide +kernel
theorem dX2_keep_83 : decode cX2_keep 83 = .ok (.invokevirtual 29, 3) := by decide +kernel
theorem dX2_keep_86 : decode cX2_keep 86 = .ok (.aload_n 0, 1) := by decide +kernel
theorem dX2_keep_87 : decode cX2_keep 87 = .ok (.dup, 1) := by decide +kernel
theorem dX2_keep_88 : decode cX2_keep 88 = .ok (.getfield 21, 3) := by decide +kernel
theorem dX2_keep_91 : decode cX2_keep 91 = .ok (.iconst 1, 1) := by decide +kernel
theorem dX2_keep_92 : decode cX2_keep 92 = .ok (.iadd, 1) := by decide +kernel
theorem dX2_keep_93 : decode cX2_keep 93 = .ok (.putfield 21, 3) := by decide +kernel
theorem dX2_keep_96 : decode cX2_keep 96 = .ok (.return_, 1) := by decide +kernel
theorem dX2_takeBack_0 : decode cX2_takeBack 0 = .ok (.aload_n 0, 1) := by decide +kernel
theorem dX2_takeBack_1 : decode cX2_takeBack 1 = .ok (.getfield 21, 3) := by decide +kernel
theorem dX2_takeBack_4 : decode cX2_takeBack 4 = .ok (.ifCond .ne 5, 3) := by decide +kernel
theorem dX2_takeBack_7 : decode cX2_takeBack 7 = .ok (.iconst 0, 1) := by decide +kernel
theorem dX2_takeBack_8 : decode cX2_takeBack 8 = .ok (.ireturn, 1) := by decide +kernel
theorem dX2_takeBack_9 : decode cX2_takeBack 9 = .ok (.aload_n 0, 1) := by decide +kernel
theorem dX2_takeBack_10 : decode cX2_takeBack 10 = .ok (.getfield 17, 3) := by decide +kernel
theorem dX2_takeBack_13 : decode cX2_takeBack 13 = .ok (.aload_n 0, 1) := by decide +kernel
theorem dX2_takeBack_14 : decode cX2_takeBack 14 = .ok (.getfield 21, 3) := by decide +kernel
theorem dX2_takeBack_17 : decode cX2_takeBack 17 = .ok (.iadd, 1) := by decide +kernel
theorem dX2_takeBack_18 : decode cX2_takeBack 18 = .ok (.iconst 1, 1) := by decide +kernel
theorem dX2_takeBack_19 : decode cX2_takeBack 19 = .ok (.isub, 1) := by decide +kernel
theorem dX2_takeBack_20 : decode cX2_takeBack 20 = .ok (.bipush 6, 2) := by decide +kernel
theorem dX2_takeBack_22 : decode cX2_takeBack 22 = .ok (.irem, 1) := by decide +kernel
theorem dX2_takeBack_23 : decode cX2_takeBack 23 = .ok (.istore_n 2, 1) := by decide +kernel
theorem dX2_takeBack_24 : decode cX2_takeBack 24 = .ok (.iload_n 2, 1) := by decide +kernel
theorem dX2_takeBack_25 : decode cX2_takeBack 25 = .ok (.bipush 6, 2) := by decide +kernel
theorem dX2_takeBack_27 : decode cX2_takeBack 27 = .ok (.invokestatic 24, 3) := by decide +kernel
theorem dX2_takeBack_30 : decode cX2_takeBack 30 = .ok (.ifCond .eq 12, 3) := by decide +kernel
theorem dX2_takeBack_33 : decode cX2_takeBack 33 = .ok (.aload_n 0, 1) := by decide +kernel
theorem dX2_takeBack_34 : decode cX2_takeBack 34 = .ok (.getfield 11, 3) := by decide +kernel
theorem dX2_takeBack_37 : decode cX2_takeBack 37 = .ok (.iload_n 2, 1) := by decide +kernel
theorem dX2_takeBack_38 : decode cX2_takeBack 38 = .ok (.aaload, 1) := by decide +kernel
theorem dX2_takeBack_39 : decode cX2_takeBack 39 = .ok (.goto 4, 3) := by decide +kernel
theorem dX2_takeBack_42 : decode cX2_takeBack 42 = .ok (.aconst_null, 1) := by decide +kernel
theorem dX2_takeBack_43 : decode cX2_takeBack 43 = .ok (.astore_n 3, 1) := by decide +kernel
theorem dX2_takeBack_44 : decode cX2_takeBack 44 = .ok (.aload_n 3, 1) := by decide +kernel
theorem dX2_takeBack_45 : decode cX2_takeBack 45 = .ok (.ifnonnull 5, 3) := by decide +kernel
theorem dX2_takeBack_48 : decode cX2_takeBack 48 = .ok (.iconst 0, 1) := by decide +kernel
theorem dX2_takeBack_49 : decode cX2_takeBack 49 = .ok (.ireturn, 1) := by decide +kernel
theorem dX2_takeBack_50 : decode cX2_takeBack 50 = .ok (.aload_n 1, 1) := by decide +kernel
theorem dX2_takeBack_51 : decode cX2_takeBack 51 = .ok (.aload_n 3, 1) := by decide +kernel
theorem dX2_takeBack_52 : decode cX2_takeBack 52 = .ok (.invokevirtual 29, 3) := by decide +kernel
theorem dX2_takeBack_55 : decode cX2_takeBack 55 = .ok (.aload_n 0, 1) := by decide +kernel
theorem dX2_takeBack_56 : decode cX2_takeBack 56 = .ok (.dup, 1) := by decide +kernel
theorem dX2_takeBack_57 : decode cX2_takeBack 57 = .ok (.getfield 21, 3) := by decide +kernel
theorem dX2_takeBack_60 : decode cX2_takeBack 60 = .ok (.iconst 1, 1) := by decide +kernel
theorem dX2_takeBack_61 : decode cX2_takeBack 61 = .ok (.isub, 1) := by decide +kernel
theorem dX2_takeBack_62 : decode cX2_takeBack 62 = .ok (.putfield 21, 3) := by decide +kernel
theorem dX2_takeBack_65 : decode cX2_takeBack 65 = .ok (.iconst 1, 1) := by decide +kernel
theorem dX2_takeBack_66 : decode cX2_takeBack 66 = .ok (.ireturn, 1) := by decide +kernel
theorem dX3_init_0 : decode cX3_init 0 = .ok (.aload_n 0, 1) := by decide +kernel
theorem dX3_init_1 : decode cX3_init 1 = .ok (.invokespecial 3, 3) := by decide +kernel
theorem dX3_init_4 : decode cX3_init 4 = .ok (.aload_n 0, 1) := by decide +kernel
theorem dX3_init_5 : decode cX3_init 5 = .ok (.bipush 60, 2) := by decide +kernel
theorem dX3_init_7 : decode cX3_init 7 = .ok (.newarray .char, 2) := by decide +kernel
theorem dX3_init_9 : decode cX3_init 9 = .ok (.putfield 9, 3) := by decide +kernel
theorem dX3_init_12 : decode cX3_init 12 = .ok (.aload_n 0, 1) := by decide +kernel
theorem dX3_init_13 : decode cX3_init 13 = .ok (.new 15, 3) := by decide +kernel
theorem dX3_init_16 : decode cX3_init 16 = .ok (.dup, 1) := by decide +kernel
theorem dX3_init_17 : decode cX3_init 17 = .ok (.bipush 13, 2) := by decide +kernel
theorem dX3_init_19 : decode cX3_init 19 = .ok (.iconst 4, 1) := by decide +kernel
theorem dX3_init_20 : decode cX3_init 20 = .ok (.invokespecial 17, 3) := by decide +kernel
theorem dX3_init_23 : decode cX3_init 23 = .ok (.putfield 20, 3) := by decide +kernel
theorem dX3_init_26 : decode cX3_init 26 = .ok (.aload_n 0, 1) := by decide +kernel
theorem dX3_init_27 : decode cX3_init 27 = .ok (.iconst 0, 1) := by decide +kernel
theorem dX3_init_28 : decode cX3_init 28 = .ok (.putfield 24, 3) := by decide +kernel
theorem dX3_init_31 : decode cX3_init 31 = .ok (.aload_n 0, 1) := by decide +kernel
theorem dX3_init_32 : decode cX3_init 32 = .ok (.iconst 0, 1) := by decide +kernel
theorem dX3_init_33 : decode cX3_init 33 = .ok (.putfield 28, 3) := by decide +kernel
theorem dX3_init_36 : decode cX3_init 36 = .ok (.return_, 1) := by decide +kernel
theorem dX3_length_0 : decode cX3_length 0 = .ok (.aload_n 0, 1) := by decide +kernel
theorem dX3_length_1 : decode cX3_length 1 = .ok (.getfield 24, 3) := by decide +kernel
theorem dX3_length_4 : decode cX3_length 4 = .ok (.ireturn, 1) := by decide +kernel
theorem dX4_init_0 : decode cX4_init 0 = .ok (.aload_n 0, 1) := by decide +kernel
theorem dX4_init_1 : decode cX4_init 1 = .ok (.invokespecial 3, 3) := by decide +kernel
theorem dX4_init_4 : decode cX4_init 4 = .ok (.aload_n 0, 1) := by decide +kernel
theorem dX4_init_5 : decode cX4_init 5 = .ok (.iconst 0, 1) := by decide +kernel
theorem dX4_init_6 : decode cX4_init 6 = .ok (.putfield 9, 3) := by decide +kernel
theorem dX4_init_9 : decode cX4_init 9 = .ok (.aload_n 0, 1) := by decide +kernel
theorem dX4_init_10 : decode cX4_init 10 = .ok (.iload_n 1, 1) := by decide +kernel
theorem dX4_init_11 : decode cX4_init 11 = .ok (.iconst 0, 1) := by decide +kernel
theorem dX4_init_12 : decode cX4_init 12 = .ok (.invokestatic 15, 3) := by decide +kernel
theorem dX4_init_15 : decode cX4_init 15 = .ok (.putfield 21, 3) := by decide +kernel
theorem dX4_init_18 : decode cX4_init 18 = .ok (.aload_n 0, 1) := by decide +kernel
theorem dX4_init_19 : decode cX4_init 19 = .ok (.iload_n 2, 1) := by decide +kernel
theorem dX4_init_20 : decode cX4_init 20 = .ok (.iconst 0, 1) := by decide +kernel
theorem dX4_init_21 : decode cX4_init 21 = .ok (.invokestatic 15, 3) := by decide +kernel
theorem dX4_init_24 : decode cX4_init 24 = .ok (.putfield 24, 3) := by decide +kernel
theorem dX4_init_27 : decode cX4_init 27 = .ok (.aload_n 0, 1) := by decide +kernel
theorem dX4_init_28 : decode cX4_init 28 = .ok (.aload_n 0, 1) := by decide +kernel
theorem dX4_init_29 : decode cX4_init 29 = .ok (.getfield 21, 3) := by decide +kernel
theorem dX4_init_32 : decode cX4_init 32 = .ok (.aload_n 0, 1) := by decide +kernel
theorem dX4_init_33 : decode cX4_init 33 = .ok (.getfield 24, 3) := by decide +kernel
theorem dX4_init_36 : decode cX4_init 36 = .ok (.imul, 1) := by decide +kernel
theorem dX4_init_37 : decode cX4_init 37 = .ok (.newarray .int, 2) := by decide +kernel
theorem dX4_init_39 : decode cX4_init 39 = .ok (.putfield 27, 3) := by decide +kernel
theorem dX4_init_42 : decode cX4_init 42 = .ok (.return_, 1) := by decide +kernel
theorem dX4_copyFrom_0 : decode cX4_copyFrom 0 = .ok (.aload_n 1, 1) := by decide +kernel
theorem dX4_copyFrom_1 : decode cX4_copyFrom 1 = .ok (.getfield 9, 3) := by decide +kernel
theorem dX4_copyFrom_4 : decode cX4_copyFrom 4 = .ok (.aload_n 1, 1) := by decide +kernel
theorem dX4_copyFrom_5 : decode cX4_copyFrom 5 = .ok (.getfield 24, 3) := by decide +kernel
theorem dX4_copyFrom_8 : decode cX4_copyFrom 8 = .ok (.imul, 1) := by decide +kernel
theorem dX4_copyFrom_9 : decode cX4_copyFrom 9 = .ok (.aload_n 1, 1) := by decide +kernel
theorem dX4_copyFrom_10 : decode cX4_copyFrom 10 = .ok (.getfield 27, 3) := by decide +kernel
theorem dX4_copyFrom_13 : decode cX4_copyFrom 13 = .ok (.arraylength, 1) := by decide +kernel
theorem dX4_copyFrom_14 : decode cX4_copyFrom 14 = .ok (.aload_n 0, 1) := by decide +kernel
theorem dX4_copyFrom_15 : decode cX4_copyFrom 15 = .ok (.getfield 27, 3) := by decide +kernel
theorem dX4_copyFrom_18 : decode cX4_copyFrom 18 = .ok (.arraylength, 1) := by decide +kernel
theorem dX4_copyFrom_19 : decode cX4_copyFrom 19 = .ok (.invokestatic 31, 3) := by decide +kernel
theorem dX4_copyFrom_22 : decode cX4_copyFrom 22 = .ok (.invokestatic 31, 3) := by decide +kernel
theorem dX4_copyFrom_25 : decode cX4_copyFrom 25 = .ok (.istore_n 2, 1) := by decide +kernel
theorem dX4_copyFrom_26 : decode cX4_copyFrom 26 = .ok (.aload_n 1, 1) := by decide +kernel
theorem dX4_copyFrom_27 : decode cX4_copyFrom 27 = .ok (.getfield 27, 3) := by decide +kernel
theorem dX4_copyFrom_30 : decode cX4_copyFrom 30 = .ok (.iconst 0, 1) := by decide +kernel
theorem dX4_copyFrom_31 : decode cX4_copyFrom 31 = .ok (.aload_n 0, 1) := by decide +kernel
theorem dX4_copyFrom_32 : decode cX4_copyFrom 32 = .ok (.getfield 27, 3) := by decide +kernel
theorem dX4_copyFrom_35 : decode cX4_copyFrom 35 = .ok (.iconst 0, 1) := by decide +kernel
theorem dX4_copyFrom_36 : decode cX4_copyFrom 36 = .ok (.iload_n 2, 1) := by decide +kernel
theorem dX4_copyFrom_37 : decode cX4_copyFrom 37 = .ok (.invokestatic 34, 3) := by decide +kernel
theorem dX4_copyFrom_40 : decode cX4_copyFrom 40 = .ok (.aload_n 0, 1) := by decide +kernel
theorem dX4_copyFrom_41 : decode cX4_copyFrom 41 = .ok (.aload_n 1, 1) := by decide +kernel
theorem dX4_copyFrom_42 : decode cX4_copyFrom 42 = .ok (.getfield 9, 3) := by decide +kernel
theorem dX4_copyFrom_45 : decode cX4_copyFrom 45 = .ok (.aload_n 0, 1) := by decide +kernel
theorem dX4_copyFrom_46 : decode cX4_copyFrom 46 = .ok (.getfield 21, 3) := by decide +kernel
theorem dX4_copyFrom_49 : decode cX4_copyFrom 49 = .ok (.invokestatic 31, 3) := by decide +kernel
theorem dX4_copyFrom_52 : decode cX4_copyFrom 52 = .ok (.putfield 9, 3) := by decide +kernel
theorem dX4_copyFrom_55 : decode cX4_copyFrom 55 = .ok (.return_, 1) := by decide +kernel
theorem dX4_clear_0 : decode cX4_clear 0 = .ok (.aload_n 0, 1) := by decide +kernel
theorem dX4_clear_1 : decode cX4_clear 1 = .ok (.iconst 0, 1) := by decide +kernel
theorem dX4_clear_2 : decode cX4_clear 2 = .ok (.putfield 9, 3) := by decide +kernel
theorem dX4_clear_5 : decode cX4_clear 5 = .ok (.return_, 1) := by decide +kernel
theorem dX4_size_0 : decode cX4_size 0 = .ok (.aload_n 0, 1) := by decide +kernel
theorem dX4_size_1 : decode cX4_size 1 = .ok (.getfield 9, 3) := by decide +kernel
theorem dX4_size_4 : decode cX4_size 4 = .ok (.ireturn, 1) := by decide +kernel
theorem dX4_get_0 : decode cX4_get 0 = .ok (.iload_n 1, 1) := by decide +kernel
theorem dX4_get_1 : decode cX4_get 1 = .ok (.ifCond .lt 27, 3) := by decide +kernel
theorem dX4_get_4 : decode cX4_get 4 = .ok (.iload_n 1, 1) := by decide +kernel
theorem dX4_get_5 : decode cX4_get 5 = .ok (.aload_n 0, 1) := by decide +kernel
theorem dX4_get_6 : decode cX4_get 6 = .ok (.getfield 9, 3) := by decide +kernel
theorem dX4_get_9 : decode cX4_get 9 = .ok (.if_icmp .ge 19, 3) := by decide +kernel
theorem dX4_get_12 : decode cX4_get 12 = .ok (.iload_n 2, 1) := by decide +kernel
theorem dX4_get_13 : decode cX4_get 13 = .ok (.ifCond .lt 15, 3) := by decide +kernel
theorem dX4_get_16 : decode cX4_get 16 = .ok (.iload_n 2, 1) := by decide +kernel
theorem dX4_get_17 : decode cX4_get 17 = .ok (.aload_n 0, 1) := by decide +kernel
theorem dX4_get_18 : decode cX4_get 18 = .ok (.getfield 24, 3) := by decide +kernel
theorem dX4_get_21 : decode cX4_get 21 = .ok (.if_icmp .ge 7, 3) := by decide +kernel
theorem dX4_get_24 : decode cX4_get 24 = .ok (.iconst 1, 1) := by decide +kernel
theorem dX4_get_25 : decode cX4_get 25 = .ok (.goto 4, 3) := by decide +kernel
theorem dX4_get_28 : decode cX4_get 28 = .ok (.iconst 0, 1) := by decide +kernel
theorem dX4_get_29 : decode cX4_get 29 = .ok (.istore_n 3, 1) := by decide +kernel
theorem dX4_get_30 : decode cX4_get 30 = .ok (.iload_n 3, 1) := by decide +kernel
theorem dX4_get_31 : decode cX4_get 31 = .ok (.ifCond .eq 19, 3) := by decide +kernel
theorem dX4_get_34 : decode cX4_get 34 = .ok (.aload_n 0, 1) := by decide +kernel
theorem dX4_get_35 : decode cX4_get 35 = .ok (.getfield 27, 3) := by decide +kernel
theorem dX4_get_38 : decode cX4_get 38 = .ok (.iload_n 1, 1) := by decide +kernel
theorem dX4_get_39 : decode cX4_get 39 = .ok (.aload_n 0, 1) := by decide +kernel
theorem dX4_get_40 : decode cX4_get 40 = .ok (.getfield 24, 3) := by decide +kernel
theorem dX4_get_43 : decode cX4_get 43 = .ok (.imul, 1) := by decide +kernel
theorem dX4_get_44 : decode cX4_get 44 = .ok (.iload_n 2, 1) := by decide +kernel
theorem dX4_get_45 : decode cX4_get 45 = .ok (.iadd, 1) := by decide +kernel
theorem dX4_get_46 : decode cX4_get 46 = .ok (.iaload, 1) := by decide +kernel
theorem dX4_get_47 : decode cX4_get 47 = .ok (.goto 4, 3) := by decide +kernel
theorem dX4_get_50 : decode cX4_get 50 = .ok (.iconst (-1), 1) := by decide +kernel
theorem dX4_get_51 : decode cX4_get 51 = .ok (.ireturn, 1) := by decide +kernel
theorem dX4_change_0 : decode cX4_change 0 = .ok (.iload_n 1, 1) := by decide +kernel
theorem dX4_change_1 : decode cX4_change 1 = .ok (.ifCond .lt 37, 3) := by decide +kernel
theorem dX4_change_4 : decode cX4_change 4 = .ok (.iload_n 1, 1) := by decide +kernel
theorem dX4_change_5 : decode cX4_change 5 = .ok (.aload_n 0, 1) := by decide +kernel
theorem dX4_change_6 : decode cX4_change 6 = .ok (.getfield 9, 3) := by decide +kernel
theorem dX4_change_9 : decode cX4_change 9 = .ok (.if_icmp .ge 29, 3) := by decide +kernel
theorem dX4_change_12 : decode cX4_change 12 = .ok (.iload_n 2, 1) := by decide +kernel
theorem dX4_change_13 : decode cX4_change 13 = .ok (.ifCond .lt 25, 3) := by decide +kernel
theorem dX4_change_16 : decode cX4_change 16 = .ok (.iload_n 2, 1) := by decide +kernel
theorem dX4_change_17 : decode cX4_change 17 = .ok (.aload_n 0, 1) := by decide +kernel
theorem dX4_change_18 : decode cX4_change 18 = .ok (.getfield 24, 3) := by decide +kernel
theorem dX4_change_21 : decode cX4_change 21 = .ok (.if_icmp .ge 17, 3) := by decide +kernel
theorem dX4_change_24 : decode cX4_change 24 = .ok (.aload_n 0, 1) := by decide +kernel
theorem dX4_change_25 : decode cX4_change 25 = .ok (.getfield 27, 3) := by decide +kernel
theorem dX4_change_28 : decode cX4_change 28 = .ok (.iload_n 1, 1) := by decide +kernel
theorem dX4_change_29 : decode cX4_change 29 = .ok (.aload_n 0, 1) := by decide +kernel
theorem dX4_change_30 : decode cX4_change 30 = .ok (.getfield 24, 3) := by decide +kernel
theorem dX4_change_33 : decode cX4_change 33 = .ok (.imul, 1) := by decide +kernel
theorem dX4_change_34 : decode cX4_change 34 = .ok (.iload_n 2, 1) := by decide +kernel
theorem dX4_change_35 : decode cX4_change 35 = .ok (.iadd, 1) := by decide +kernel
theorem dX4_change_36 : decode cX4_change 36 = .ok (.iload_n 3, 1) := by decide +kernel
theorem dX4_change_37 : decode cX4_change 37 = .ok (.iastore, 1) := by decide +kernel
theorem dX4_change_38 : decode cX4_change 38 = .ok (.return_, 1) := by decide +kernel
theorem dX4_append_0 : decode cX4_append 0 = .ok (.aload_n 0, 1) := by decide +kernel
theorem dX4_append_1 : decode cX4_append 1 = .ok (.getfield 9, 3) := by decide +kernel
theorem dX4_append_4 : decode cX4_append 4 = .ok (.aload_n 0, 1) := by decide +kernel
theorem dX4_append_5 : decode cX4_append 5 = .ok (.getfield 21, 3) := by decide +kernel
theorem dX4_append_8 : decode cX4_append 8 = .ok (.if_icmp .lt 5, 3) := by decide +kernel
theorem dX4_append_11 : decode cX4_append 11 = .ok (.iconst (-1), 1) := by decide +kernel
theorem dX4_append_12 : decode cX4_append 12 = .ok (.ireturn, 1) := by decide +kernel
theorem dX4_append_13 : decode cX4_append 13 = .ok (.aload_n 0, 1) := by decide +kernel
theorem dX4_append_14 : decode cX4_append 14 = .ok (.dup, 1) := by decide +kernel
theorem dX4_append_15 : decode cX4_append 15 = .ok (.getfield 9, 3) := by decide +kernel
theorem dX4_append_18 : decode cX4_append 18 = .ok (.iconst 1, 1) := by decide +kernel
theorem dX4_append_19 : decode cX4_append 19 = .ok (.iadd, 1) := by decide +kernel
theorem dX4_append_20 : decode cX4_append 20 = .ok (.putfield 9, 3) := by decide +kernel
theorem dX4_append_23 : decode cX4_append 23 = .ok (.aload_n 0, 1) := by decide +kernel
theorem dX4_append_24 : decode cX4_append 24 = .ok (.getfield 9, 3) := by decide +kernel
theorem dX4_append_27 : decode cX4_append 27 = .ok (.iconst 1, 1) := by decide +kernel
theorem dX4_append_28 : decode cX4_append 28 = .ok (.isub, 1) := by decide +kernel
theorem dX4_append_29 : decode cX4_append 29 = .ok (.ireturn, 1) := by decide +kernel
theorem dX4_remove_0 : decode cX4_remove 0 = .ok (.iload_n 1, 1) := by decide +kernel
theorem dX4_remove_1 : decode cX4_remove 1 = .ok (.ifCond .lt 11, 3) := by decide +kernel
theorem dX4_remove_4 : decode cX4_remove 4 = .ok (.iload_n 1, 1) := by decide +kernel
theorem dX4_remove_5 : decode cX4_remove 5 = .ok (.aload_n 0, 1) := by decide +kernel
theorem dX4_remove_6 : decode cX4_remove 6 = .ok (.getfield 9, 3) := by decide +kernel
theorem dX4_remove_9 : decode cX4_remove 9 = .ok (.if_icmp .lt 4, 3) := by decide +kernel
theorem dX4_remove_12 : decode cX4_remove 12 = .ok (.return_, 1) := by decide +kernel
theorem dX4_remove_13 : decode cX4_remove 13 = .ok (.aload_n 0, 1) := by decide +kernel
theorem dX4_remove_14 : decode cX4_remove 14 = .ok (.dup, 1) := by decide +kernel
theorem dX4_remove_15 : decode cX4_remove 15 = .ok (.getfield 9, 3) := by decide +kernel
theorem dX4_remove_18 : decode cX4_remove 18 = .ok (.iconst 1, 1) := by decide +kernel
theorem dX4_remove_19 : decode cX4_remove 19 = .ok (.isub, 1) := by decide +kernel
theorem dX4_remove_20 : decode cX4_remove 20 = .ok (.putfield 9, 3) := by decide +kernel
theorem dX4_remove_23 : decode cX4_remove 23 = .ok (.iload_n 1, 1) := by decide +kernel
theorem dX4_remove_24 : decode cX4_remove 24 = .ok (.aload_n 0, 1) := by decide +kernel
theorem dX4_remove_25 : decode cX4_remove 25 = .ok (.getfield 24, 3) := by decide +kernel
theorem dX4_remove_28 : decode cX4_remove 28 = .ok (.imul, 1) := by decide +kernel
theorem dX4_remove_29 : decode cX4_remove 29 = .ok (.istore_n 2, 1) := by decide +kernel
theorem dX4_remove_30 : decode cX4_remove 30 = .ok (.iload_n 2, 1) := by decide +kernel
theorem dX4_remove_31 : decode cX4_remove 31 = .ok (.aload_n 0, 1) := by decide +kernel
theorem dX4_remove_32 : decode cX4_remove 32 = .ok (.getfield 9, 3) := by decide +kernel
theorem dX4_remove_35 : decode cX4_remove 35 = .ok (.aload_n 0, 1) := by decide +kernel
theorem dX4_remove_36 : decode cX4_remove 36 = .ok (.getfield 24, 3) := by decide +kernel
theorem dX4_remove_39 : decode cX4_remove 39 = .ok (.imul, 1) := by decide +kernel
theorem dX4_remove_40 : decode cX4_remove 40 = .ok (.if_icmp .ge 26, 3) := by decide +kernel
theorem dX4_remove_43 : decode cX4_remove 43 = .ok (.aload_n 0, 1) := by decide +kernel
theorem dX4_remove_44 : decode cX4_remove 44 = .ok (.getfield 27, 3) := by decide +kernel
theorem dX4_remove_47 : decode cX4_remove 47 = .ok (.iload_n 2, 1) := by decide +kernel
theorem dX4_remove_48 : decode cX4_remove 48 = .ok (.aload_n 0, 1) := by decide +kernel
theorem dX4_remove_49 : decode cX4_remove 49 = .ok (.getfield 27, 3) := by decide +kernel
theorem dX4_remove_52 : decode cX4_remove 52 = .ok (.iload_n 2, 1) := by decide +kernel
theorem dX4_remove_53 : decode cX4_remove 53 = .ok (.aload_n 0, 1) := by decide +kernel
theorem dX4_remove_54 : decode cX4_remove 54 = .ok (.getfield 24, 3) := by decide +kernel
theorem dX4_remove_57 : decode cX4_remove 57 = .ok (.iadd, 1) := by decide +kernel
theorem dX4_remove_58 : decode cX4_remove 58 = .ok (.iaload, 1) := by decide +kernel
theorem dX4_remove_59 : decode cX4_remove 59 = .ok (.iastore, 1) := by decide +kernel
theorem dX4_remove_60 : decode cX4_remove 60 = .ok (.iinc 2 1, 3) := by decide +kernel
theorem dX4_remove_63 : decode cX4_remove 63 = .ok (.goto (-33), 3) := by decide +kernel
theorem dX4_remove_66 : decode cX4_remove 66 = .ok (.return_, 1) := by decide +kernel
theorem dX5_init_0 : decode cX5_init 0 = .ok (.aload_n 0, 1) := by decide +kernel
theorem dX5_init_1 : decode cX5_init 1 = .ok (.invokespecial 3, 3) := by decide +kernel
theorem dX5_init_4 : decode cX5_init 4 = .ok (.aload_n 0, 1) := by decide +kernel
theorem dX5_init_5 : decode cX5_init 5 = .ok (.new 9, 3) := by decide +kernel
theorem dX5_init_8 : decode cX5_init 8 = .ok (.dup, 1) := by decide +kernel
theorem dX5_init_9 : decode cX5_init 9 = .ok (.invokespecial 11, 3) := by decide +kernel
theorem dX5_init_12 : decode cX5_init 12 = .ok (.putfield 12, 3) := by decide +kernel
theorem dX5_init_15 : decode cX5_init 15 = .ok (.aload_n 0, 1) := by decide +kernel
theorem dX5_init_16 : decode cX5_init 16 = .ok (.new 18, 3) := by decide +kernel
theorem dX5_init_19 : decode cX5_init 19 = .ok (.dup, 1) := by decide +kernel
theorem dX5_init_20 : decode cX5_init 20 = .ok (.invokespecial 20, 3) := by decide +kernel
theorem dX5_init_23 : decode cX5_init 23 = .ok (.putfield 21, 3) := by decide +kernel
theorem dX5_init_26 : decode cX5_init 26 = .ok (.aload_n 0, 1) := by decide +kernel
theorem dX5_init_27 : decode cX5_init 27 = .ok (.new 25, 3) := by decide +kernel
theorem dX5_init_30 : decode cX5_init 30 = .ok (.dup, 1) := by decide +kernel
theorem dX5_init_31 : decode cX5_init 31 = .ok (.bipush 100, 2) := by decide +kernel
theorem dX5_init_33 : decode cX5_init 33 = .ok (.bipush 6, 2) := by decide +kernel
theorem dX5_init_35 : decode cX5_init 35 = .ok (.invokespecial 29, 3) := by decide +kernel
theorem dX5_init_38 : decode cX5_init 38 = .ok (.putfield 32, 3) := by decide +kernel
theorem dX5_init_41 : decode cX5_init 41 = .ok (.aload_n 0, 1) := by decide +kernel
theorem dX5_init_42 : decode cX5_init 42 = .ok (.iconst 4, 1) := by decide +kernel
theorem dX5_init_43 : decode cX5_init 43 = .ok (.putfield 36, 3) := by decide +kernel
theorem dX5_init_46 : decode cX5_init 46 = .ok (.aload_n 0, 1) := by decide +kernel
theorem dX5_init_47 : decode cX5_init 47 = .ok (.iconst 0, 1) := by decide +kernel
theorem dX5_init_48 : decode cX5_init 48 = .ok (.putfield 40, 3) := by decide +kernel
theorem dX5_init_51 : decode cX5_init 51 = .ok (.return_, 1) := by decide +kernel
theorem dX5_copyFrom_0 : decode cX5_copyFrom 0 = .ok (.aload_n 0, 1) := by decide +kernel
theorem dX5_copyFrom_1 : decode cX5_copyFrom 1 = .ok (.getfield 12, 3) := by decide +kernel
theorem dX5_copyFrom_4 : decode cX5_copyFrom 4 = .ok (.aload_n 1, 1) := by decide +kernel
theorem dX5_copyFrom_5 : decode cX5_copyFrom 5 = .ok (.getfield 12, 3) := by decide +kernel
theorem dX5_copyFrom_8 : decode cX5_copyFrom 8 = .ok (.invokevirtual 43, 3) := by decide +kernel
theorem dX5_copyFrom_11 : decode cX5_copyFrom 11 = .ok (.aload_n 0, 1) := by decide +kernel
theorem dX5_copyFrom_12 : decode cX5_copyFrom 12 = .ok (.getfield 21, 3) := by decide +kernel
theorem dX5_copyFrom_15 : decode cX5_copyFrom 15 = .ok (.aload_n 1, 1) := by decide +kernel
theorem dX5_copyFrom_16 : decode cX5_copyFrom 16 = .ok (.getfield 21, 3) := by decide +kernel
theorem dX5_copyFrom_19 : decode cX5_copyFrom 19 = .ok (.invokevirtual 47, 3) := by decide +kernel
theorem dX5_copyFrom_22 : decode cX5_copyFrom 22 = .ok (.aload_n 0, 1) := by decide +kernel
theorem dX5_copyFrom_23 : decode cX5_copyFrom 23 = .ok (.getfield 32, 3) := by decide +kernel
theorem dX5_copyFrom_26 : decode cX5_copyFrom 26 = .ok (.aload_n 1, 1) := by decide +kernel
theorem dX5_copyFrom_27 : decode cX5_copyFrom 27 = .ok (.getfield 32, 3) := by decide +kernel
theorem dX5_copyFrom_30 : decode cX5_copyFrom 30 = .ok (.invokevirtual 50, 3) := by decide +kernel
theorem dX5_copyFrom_33 : decode cX5_copyFrom 33 = .ok (.aload_n 0, 1) := by decide +kernel
theorem dX5_copyFrom_34 : decode cX5_copyFrom 34 = .ok (.aload_n 1, 1) := by decide +kernel
theorem dX5_copyFrom_35 : decode cX5_copyFrom 35 = .ok (.getfield 36, 3) := by decide +kernel
theorem dX5_copyFrom_38 : decode cX5_copyFrom 38 = .ok (.putfield 36, 3) := by decide +kernel
theorem dX5_copyFrom_41 : decode cX5_copyFrom 41 = .ok (.aload_n 0, 1) := by decide +kernel
theorem dX5_copyFrom_42 : decode cX5_copyFrom 42 = .ok (.aload_n 1, 1) := by decide +kernel
theorem dX5_copyFrom_43 : decode cX5_copyFrom 43 = .ok (.getfield 40, 3) := by decide +kernel
theorem dX5_copyFrom_46 : decode cX5_copyFrom 46 = .ok (.putfield 40, 3) := by decide +kernel
theorem dX5_copyFrom_49 : decode cX5_copyFrom 49 = .ok (.return_, 1) := by decide +kernel
theorem dX6_init_0 : decode cX6_init 0 = .ok (.aload_n 0, 1) := by decide +kernel
theorem dX6_init_1 : decode cX6_init 1 = .ok (.invokespecial 3, 3) := by decide +kernel
theorem dX6_init_4 : decode cX6_init 4 = .ok (.aload_n 0, 1) := by decide +kernel
theorem dX6_init_5 : decode cX6_init 5 = .ok (.iconst 4, 1) := by decide +kernel
theorem dX6_init_6 : decode cX6_init 6 = .ok (.newarray .int, 2) := by decide +kernel
theorem dX6_init_8 : decode cX6_init 8 = .ok (.putfield 9, 3) := by decide +kernel
theorem dX6_init_11 : decode cX6_init 11 = .ok (.aload_n 0, 1) := by decide +kernel
theorem dX6_init_12 : decode cX6_init 12 = .ok (.bipush 48, 2) := by decide +kernel
theorem dX6_init_14 : decode cX6_init 14 = .ok (.newarray .int, 2) := by decide +kernel
theorem dX6_init_16 : decode cX6_init 16 = .ok (.putfield 15, 3) := by decide +kernel
theorem dX6_init_19 : decode cX6_init 19 = .ok (.aload_n 0, 1) := by decide +kernel
theorem dX6_init_20 : decode cX6_init 20 = .ok (.bipush 48, 2) := by decide +kernel
theorem dX6_init_22 : decode cX6_init 22 = .ok (.newarray .int, 2) := by decide +kernel
theorem dX6_init_24 : decode cX6_init 24 = .ok (.putfield 18, 3) := by decide +kernel
theorem dX6_init_27 : decode cX6_init 27 = .ok (.return_, 1) := by decide +kernel
theorem dX6_copyFrom_0 : decode cX6_copyFrom 0 = .ok (.aload_n 1, 1) := by decide +kernel
theorem dX6_copyFrom_1 : decode cX6_copyFrom 1 = .ok (.getfield 9, 3) := by decide +kernel
theorem dX6_copyFrom_4 : decode cX6_copyFrom 4 = .ok (.iconst 0, 1) := by decide +kernel
theorem dX6_copyFrom_5 : decode cX6_copyFrom 5 = .ok (.aload_n 0, 1) := by decide +kernel
theorem dX6_copyFrom_6 : decode cX6_copyFrom 6 = .ok (.getfield 9, 3) := by decide +kernel
theorem dX6_copyFrom_9 : decode cX6_copyFrom 9 = .ok (.iconst 0, 1) := by decide +kernel
theorem dX6_copyFrom_10 : decode cX6_copyFrom 10 = .ok (.iconst 4, 1) := by decide +kernel
theorem dX6_copyFrom_11 : decode cX6_copyFrom 11 = .ok (.invokestatic 21, 3) := by decide +kernel
theorem dX6_copyFrom_14 : decode cX6_copyFrom 14 = .ok (.aload_n 1, 1) := by decide +kernel
theorem dX6_copyFrom_15 : decode cX6_copyFrom 15 = .ok (.getfield 15, 3) := by decide +kernel
theorem dX6_copyFrom_18 : decode cX6_copyFrom 18 = .ok (.iconst 0, 1) := by decide +kernel
theorem dX6_copyFrom_19 : decode cX6_copyFrom 19 = .ok (.aload_n 0, 1) := by decide +kernel
theorem dX6_copyFrom_20 : decode cX6_copyFrom 20 = .ok (.getfield 15, 3) := by decide +kernel
theorem dX6_copyFrom_23 : decode cX6_copyFrom 23 = .ok (.iconst 0, 1) := by decide +kernel
theorem dX6_copyFrom_24 : decode cX6_copyFrom 24 = .ok (.bipush 48, 2) := by decide +kernel
theorem dX6_copyFrom_26 : decode cX6_copyFrom 26 = .ok (.invokestatic 21, 3) := by decide +kernel
theorem dX6_copyFrom_29 : decode cX6_copyFrom 29 = .ok (.aload_n 1, 1) := by decide +kernel
theorem dX6_copyFrom_30 : decode cX6_copyFrom 30 = .ok (.getfield 18, 3) := by decide +kernel
theorem dX6_copyFrom_33 : decode cX6_copyFrom 33 = .ok (.iconst 0, 1) := by decide +kernel
theorem dX6_copyFrom_34 : decode cX6_copyFrom 34 = .ok (.aload_n 0, 1) := by decide +kernel
theorem dX6_copyFrom_35 : decode cX6_copyFrom 35 = .ok (.getfield 18, 3) := by decide +kernel
theorem dX6_copyFrom_38 : decode cX6_copyFrom 38 = .ok (.iconst 0, 1) := by decide +kernel
theorem dX6_copyFrom_39 : decode cX6_copyFrom 39 = .ok (.bipush 48, 2) := by decide +kernel
theorem dX6_copyFrom_41 : decode cX6_copyFrom 41 = .ok (.invokestatic 21, 3) := by decide +kernel
theorem dX6_copyFrom_44 : decode cX6_copyFrom 44 = .ok (.return_, 1) := by decide +kernel
theorem dX6_sizeOf_0 : decode cX6_sizeOf 0 = .ok (.iload_n 1, 1) := by decide +kernel
theorem dX6_sizeOf_1 : decode cX6_sizeOf 1 = .ok (.iconst 4, 1) := by decide +kernel
theorem dX6_sizeOf_2 : decode cX6_sizeOf 2 = .ok (.invokestatic 27, 3) := by decide +kernel
theorem dX6_sizeOf_5 : decode cX6_sizeOf 5 = .ok (.ifCond .eq 12, 3) := by decide +kernel
theorem dX6_sizeOf_8 : decode cX6_sizeOf 8 = .ok (.aload_n 0, 1) := by decide +kernel
theorem dX6_sizeOf_9 : decode cX6_sizeOf 9 = .ok (.getfield 9, 3) := by decide +kernel
theorem dX6_sizeOf_12 : decode cX6_sizeOf 12 = .ok (.iload_n 1, 1) := by decide +kernel
theorem dX6_sizeOf_13 : decode cX6_sizeOf 13 = .ok (.iaload, 1) := by decide +kernel
theorem dX6_sizeOf_14 : decode cX6_sizeOf 14 = .ok (.goto 4, 3) := by decide +kernel
theorem dX6_sizeOf_17 : decode cX6_sizeOf 17 = .ok (.iconst 0, 1) := by decide +kernel
theorem dX6_sizeOf_18 : decode cX6_sizeOf 18 = .ok (.ireturn, 1) := by decide +kernel
theorem dX6_rows_0 : decode cX6_rows 0 = .ok (.iconst 0, 1) := by decide +kernel
theorem dX6_rows_1 : decode cX6_rows 1 = .ok (.istore_n 1, 1) := by decide +kernel
theorem dX6_rows_2 : decode cX6_rows 2 = .ok (.iconst 0, 1) := by decide +kernel
theorem dX6_rows_3 : decode cX6_rows 3 = .ok (.istore_n 2, 1) := by decide +kernel
theorem dX6_rows_4 : decode cX6_rows 4 = .ok (.iload_n 2, 1) := by decide +kernel
theorem dX6_rows_5 : decode cX6_rows 5 = .ok (.iconst 4, 1) := by decide +kernel
theorem dX6_rows_6 : decode cX6_rows 6 = .ok (.if_icmp .ge 18, 3) := by decide +kernel
theorem dX6_rows_9 : decode cX6_rows 9 = .ok (.iload_n 1, 1) := by decide +kernel
theorem dX6_rows_10 : decode cX6_rows 10 = .ok (.aload_n 0, 1) := by decide +kernel
theorem dX6_rows_11 : decode cX6_rows 11 = .ok (.getfield 9, 3) := by decide +kernel
theorem dX6_rows_14 : decode cX6_rows 14 = .ok (.iload_n 2, 1) := by decide +kernel
theorem dX6_rows_15 : decode cX6_rows 15 = .ok (.iaload, 1) := by decide +kernel
theorem dX6_rows_16 : decode cX6_rows 16 = .ok (.iadd, 1) := by decide +kernel
theorem dX6_rows_17 : decode cX6_rows 17 = .ok (.istore_n 1, 1) := by decide +kernel
theorem dX6_rows_18 : decode cX6_rows 18 = .ok (.iinc 2 1, 3) := by decide +kernel
theorem dX6_rows_21 : decode cX6_rows 21 = .ok (.goto (-17), 3) := by decide +kernel
theorem dX6_rows_24 : decode cX6_rows 24 = .ok (.iload_n 1, 1) := by decide +kernel
theorem dX6_rows_25 : decode cX6_rows 25 = .ok (.ireturn, 1) := by decide +kernel
theorem dX6_sumOfNumbers_0 : decode cX6_sumOfNumbers 0 = .ok (.iconst 0, 1) := by decide +kernel
theorem dX6_sumOfNumbers_1 : decode cX6_sumOfNumbers 1 = .ok (.istore_n 1, 1) := by decide +kernel
theorem dX6_sumOfNumbers_2 : decode cX6_sumOfNumbers 2 = .ok (.iconst 0, 1) := by decide +kernel
theorem dX6_sumOfNumbers_3 : decode cX6_sumOfNumbers 3 = .ok (.istore_n 2, 1) := by decide +kernel
theorem dX6_sumOfNumbers_4 : decode cX6_sumOfNumbers 4 = .ok (.iload_n 2, 1) := by decide +kernel
theorem dX6_sumOfNumbers_5 : decode cX6_sumOfNumbers 5 = .ok (.iconst 4, 1) := by decide +kernel
theorem dX6_sumOfNumbers_6 : decode cX6_sumOfNumbers 6 = .ok (.if_icmp .ge 36, 3) := by decide +kernel
theorem dX6_sumOfNumbers_9 : decode cX6_sumOfNumbers 9 = .ok (.iconst 0, 1) := by decide +kernel
theorem dX6_sumOfNumbers_10 : decode cX6_sumOfNumbers 10 = .ok (.istore_n 3, 1) := by decide +kernel
theorem dX6_sumOfNumbers_11 : decode cX6_sumOfNumbers 11 = .ok (.iload_n 3, 1) := by decide +kernel
theorem dX6_sumOfNumbers_12 : decode cX6_sumOfNumbers 12 = .ok (.aload_n 0, 1) := by decide +kernel
theorem dX6_sumOfNumbers_13 : decode cX6_sumOfNumbers 13 = .ok (.getfield 9, 3) := by decide +kernel
theorem dX6_sumOfNumbers_16 : decode cX6_sumOfNumbers 16 = .ok (.iload_n 2, 1) := by decide +kernel
theorem dX6_sumOfNumbers_17 : decode cX6_sumOfNumbers 17 = .ok (.iaload, 1) := by decide +kernel
theorem dX6_sumOfNumbers_18 : decode cX6_sumOfNumbers 18 = .ok (.if_icmp .ge 18, 3) := by decide +kernel
theorem dX6_sumOfNumbers_21 : decode cX6_sumOfNumbers 21 = .ok (.iload_n 1, 1) := by decide +kernel
theorem dX6_sumOfNumbers_22 : decode cX6_sumOfNumbers 22 = .ok (.aload_n 0, 1) := by decide +kernel
theorem dX6_sumOfNumbers_23 : decode cX6_sumOfNumbers 23 = .ok (.iload_n 2, 1) := by decide +kernel
theorem dX6_sumOfNumbers_24 : decode cX6_sumOfNumbers 24 = .ok (.iload_n 3, 1) := by decide +kernel
theorem dX6_sumOfNumbers_25 : decode cX6_sumOfNumbers 25 = .ok (.invokevirtual 31, 3) := by decide +kernel
theorem dX6_sumOfNumbers_28 : decode cX6_sumOfNumbers 28 = .ok (.iadd, 1) := by decide +kernel
theorem dX6_sumOfNumbers_29 : decode cX6_sumOfNumbers 29 = .ok (.istore_n 1, 1) := by decide +kernel
theorem dX6_sumOfNumbers_30 : decode cX6_sumOfNumbers 30 = .ok (.iinc 3 1, 3) := by decide +kernel
theorem dX6_sumOfNumbers_33 : decode cX6_sumOfNumbers 33 = .ok (.goto (-22), 3) := by decide +kernel
theorem dX6_sumOfNumbers_36 : decode cX6_sumOfNumbers 36 = .ok (.iinc 2 1, 3) := by decide +kernel
theorem dX6_sumOfNumbers_39 : decode cX6_sumOfNumbers 39 = .ok (.goto (-35), 3) := by decide +kernel
theorem dX6_sumOfNumbers_42 : decode cX6_sumOfNumbers 42 = .ok (.iload_n 1, 1) := by decide +kernel
theorem dX6_sumOfNumbers_43 : decode cX6_sumOfNumbers 43 = .ok (.ireturn, 1) := by decide +kernel
theorem dX6_keyAt_0 : decode cX6_keyAt 0 = .ok (.iload_n 2, 1) := by decide +kernel
theorem dX6_keyAt_1 : decode cX6_keyAt 1 = .ok (.aload_n 0, 1) := by decide +kernel
theorem dX6_keyAt_2 : decode cX6_keyAt 2 = .ok (.iload_n 1, 1) := by decide +kernel
theorem dX6_keyAt_3 : decode cX6_keyAt 3 = .ok (.invokevirtual 35, 3) := by decide +kernel
theorem dX6_keyAt_6 : decode cX6_keyAt 6 = .ok (.invokestatic 27, 3) := by decide +kernel
theorem dX6_keyAt_9 : decode cX6_keyAt 9 = .ok (.ifCond .eq 17, 3) := by decide +kernel
theorem dX6_keyAt_12 : decode cX6_keyAt 12 = .ok (.aload_n 0, 1) := by decide +kernel
theorem dX6_keyAt_13 : decode cX6_keyAt 13 = .ok (.getfield 15, 3) := by decide +kernel
theorem dX6_keyAt_16 : decode cX6_keyAt 16 = .ok (.iload_n 1, 1) := by decide +kernel
theorem dX6_keyAt_17 : decode cX6_keyAt 17 = .ok (.bipush 12, 2) := by decide +kernel
theorem dX6_keyAt_19 : decode cX6_keyAt 19 = .ok (.imul, 1) := by decide +kernel
theorem dX6_keyAt_20 : decode cX6_keyAt 20 = .ok (.iload_n 2, 1) := by decide +kernel
theorem dX6_keyAt_21 : decode cX6_keyAt 21 = .ok (.iadd, 1) := by decide +kernel
theorem dX6_keyAt_22 : decode cX6_keyAt 22 = .ok (.iaload, 1) := by decide +kernel
theorem dX6_keyAt_23 : decode cX6_keyAt 23 = .ok (.goto 4, 3) := by decide +kernel
theorem dX6_keyAt_26 : decode cX6_keyAt 26 = .ok (.iconst (-1), 1) := by decide +kernel
theorem dX6_keyAt_27 : decode cX6_keyAt 27 = .ok (.ireturn, 1) := by decide +kernel
theorem dX6_numberAt_0 : decode cX6_numberAt 0 = .ok (.iload_n 2, 1) := by decide +kernel
theorem dX6_numberAt_1 : decode cX6_numberAt 1 = .ok (.aload_n 0, 1) := by decide +kernel
theorem dX6_numberAt_2 : decode cX6_numberAt 2 = .ok (.iload_n 1, 1) := by decide +kernel
theorem dX6_numberAt_3 : decode cX6_numberAt 3 = .ok (.invokevirtual 35, 3) := by decide +kernel
theorem dX6_numberAt_6 : decode cX6_numberAt 6 = .ok (.invokestatic 27, 3) := by decide +kernel
theorem dX6_numberAt_9 : decode cX6_numberAt 9 = .ok (.ifCond .eq 17, 3) := by decide +kernel
theorem dX6_numberAt_12 : decode cX6_numberAt 12 = .ok (.aload_n 0, 1) := by decide +kernel
theorem dX6_numberAt_13 : decode cX6_numberAt 13 = .ok (.getfield 18, 3) := by decide +kernel
theorem dX6_numberAt_16 : decode cX6_numberAt 16 = .ok (.iload_n 1, 1) := by decide +kernel
theorem dX6_numberAt_17 : decode cX6_numberAt 17 = .ok (.bipush 12, 2) := by decide +kernel
theorem dX6_numberAt_19 : decode cX6_numberAt 19 = .ok (.imul, 1) := by decide +kernel
theorem dX6_numberAt_20 : decode cX6_numberAt 20 = .ok (.iload_n 2, 1) := by decide +kernel
theorem dX6_numberAt_21 : decode cX6_numberAt 21 = .ok (.iadd, 1) := by decide +kernel
theorem dX6_numberAt_22 : decode cX6_numberAt 22 = .ok (.iaload, 1) := by decide +kernel
theorem dX6_numberAt_23 : decode cX6_numberAt 23 = .ok (.goto 4, 3) := by decide +kernel
theorem dX6_numberAt_26 : decode cX6_numberAt 26 = .ok (.iconst (-1), 1) := by decide +kernel
theorem dX6_numberAt_27 : decode cX6_numberAt 27 = .ok (.ireturn, 1) := by decide +kernel
theorem dX6_placeOf_0 : decode cX6_placeOf 0 = .ok (.aload_n 0, 1) := by decide +kernel
theorem dX6_placeOf_1 : decode cX6_placeOf 1 = .ok (.iload_n 1, 1) := by decide +kernel
theorem dX6_placeOf_2 : decode cX6_placeOf 2 = .ok (.invokevirtual 35, 3) := by decide +kernel
theorem dX6_placeOf_5 : decode cX6_placeOf 5 = .ok (.istore_n 3, 1) := by decide +kernel
theorem dX6_placeOf_6 : decode cX6_placeOf 6 = .ok (.iconst 0, 1) := by decide +kernel
theorem dX6_placeOf_7 : decode cX6_placeOf 7 = .ok (.istore 4, 2) := by decide +kernel
theorem dX6_placeOf_9 : decode cX6_placeOf 9 = .ok (.iload 4, 2) := by decide +kernel
theorem dX6_placeOf_11 : decode cX6_placeOf 11 = .ok (.iload_n 3, 1) := by decide +kernel
theorem dX6_placeOf_12 : decode cX6_placeOf 12 = .ok (.if_icmp .ge 28, 3) := by decide +kernel
theorem dX6_placeOf_15 : decode cX6_placeOf 15 = .ok (.aload_n 0, 1) := by decide +kernel
theorem dX6_placeOf_16 : decode cX6_placeOf 16 = .ok (.getfield 15, 3) := by decide +kernel
theorem dX6_placeOf_19 : decode cX6_placeOf 19 = .ok (.iload_n 1, 1) := by decide +kernel
theorem dX6_placeOf_20 : decode cX6_placeOf 20 = .ok (.bipush 12, 2) := by decide +kernel
theorem dX6_placeOf_22 : decode cX6_placeOf 22 = .ok (.imul, 1) := by decide +kernel
theorem dX6_placeOf_23 : decode cX6_placeOf 23 = .ok (.iload 4, 2) := by decide +kernel
theorem dX6_placeOf_25 : decode cX6_placeOf 25 = .ok (.iadd, 1) := by decide +kernel
theorem dX6_placeOf_26 : decode cX6_placeOf 26 = .ok (.iaload, 1) := by decide +kernel
theorem dX6_placeOf_27 : decode cX6_placeOf 27 = .ok (.iload_n 2, 1) := by decide +kernel
theorem dX6_placeOf_28 : decode cX6_placeOf 28 = .ok (.if_icmp .ne 6, 3) := by decide +kernel
theorem dX6_placeOf_31 : decode cX6_placeOf 31 = .ok (.iload 4, 2) := by decide +kernel
theorem dX6_placeOf_33 : decode cX6_placeOf 33 = .ok (.ireturn, 1) := by decide +kernel
theorem dX6_placeOf_34 : decode cX6_placeOf 34 = .ok (.iinc 4 1, 3) := by decide +kernel
theorem dX6_placeOf_37 : decode cX6_placeOf 37 = .ok (.goto (-28), 3) := by decide +kernel
theorem dX6_placeOf_40 : decode cX6_placeOf 40 = .ok (.iconst (-1), 1) := by decide +kernel
theorem dX6_placeOf_41 : decode cX6_placeOf 41 = .ok (.ireturn, 1) := by decide +kernel
theorem dX6_weightOf_0 : decode cX6_weightOf 0 = .ok (.aload_n 0, 1) := by decide +kernel
theorem dX6_weightOf_1 : decode cX6_weightOf 1 = .ok (.iload_n 2, 1) := by decide +kernel
theorem dX6_weightOf_2 : decode cX6_weightOf 2 = .ok (.iload_n 3, 1) := by decide +kernel
theorem dX6_weightOf_3 : decode cX6_weightOf 3 = .ok (.invokevirtual 39, 3) := by decide +kernel
theorem dX6_weightOf_6 : decode cX6_weightOf 6 = .ok (.istore 5, 2) := by decide +kernel
theorem dX6_weightOf_8 : decode cX6_weightOf 8 = .ok (.iload_n 1, 1) := by decide +kernel
theorem dX6_weightOf_9 : decode cX6_weightOf 9 = .ok (.ifCond .ne 26, 3) := by decide +kernel
theorem dX6_weightOf_12 : decode cX6_weightOf 12 = .ok (.iload 5, 2) := by decide +kernel
theorem dX6_weightOf_14 : decode cX6_weightOf 14 = .ok (.iconst (-1), 1) := by decide +kernel
theorem dX6_weightOf_15 : decode cX6_weightOf 15 = .ok (.if_icmp .ne 18, 3) := by decide +kernel
theorem dX6_weightOf_18 : decode cX6_weightOf 18 = .ok (.aload_n 0, 1) := by decide +kernel
theorem dX6_weightOf_19 : decode cX6_weightOf 19 = .ok (.iload_n 2, 1) := by decide +kernel
theorem dX6_weightOf_20 : decode cX6_weightOf 20 = .ok (.invokevirtual 35, 3) := by decide +kernel
theorem dX6_weightOf_23 : decode cX6_weightOf 23 = .ok (.bipush 12, 2) := by decide +kernel
theorem dX6_weightOf_25 : decode cX6_weightOf 25 = .ok (.if_icmp .ge 8, 3) := by decide +kernel
theorem dX6_weightOf_28 : decode cX6_weightOf 28 = .ok (.iload 4, 2) := by decide +kernel
theorem dX6_weightOf_30 : decode cX6_weightOf 30 = .ok (.goto 4, 3) := by decide +kernel
theorem dX6_weightOf_33 : decode cX6_weightOf 33 = .ok (.iconst (-1), 1) := by decide +kernel
theorem dX6_weightOf_34 : decode cX6_weightOf 34 = .ok (.ireturn, 1) := by decide +kernel
theorem dX6_weightOf_35 : decode cX6_weightOf 35 = .ok (.iload 5, 2) := by decide +kernel
theorem dX6_weightOf_37 : decode cX6_weightOf 37 = .ok (.iconst (-1), 1) := by decide +kernel
theorem dX6_weightOf_38 : decode cX6_weightOf 38 = .ok (.if_icmp .ne 5, 3) := by decide +kernel
theorem dX6_weightOf_41 : decode cX6_weightOf 41 = .ok (.iconst (-1), 1) := by decide +kernel
theorem dX6_weightOf_42 : decode cX6_weightOf 42 = .ok (.ireturn, 1) := by decide +kernel
theorem dX6_weightOf_43 : decode cX6_weightOf 43 = .ok (.iload_n 1, 1) := by decide +kernel
theorem dX6_weightOf_44 : decode cX6_weightOf 44 = .ok (.iconst 2, 1) := by decide +kernel
theorem dX6_weightOf_45 : decode cX6_weightOf 45 = .ok (.if_icmp .ne 11, 3) := by decide +kernel
theorem dX6_weightOf_48 : decode cX6_weightOf 48 = .ok (.aload_n 0, 1) := by decide +kernel
theorem dX6_weightOf_49 : decode cX6_weightOf 49 = .ok (.iload_n 2, 1) := by decide +kernel
theorem dX6_weightOf_50 : decode cX6_weightOf 50 = .ok (.iload 5, 2) := by decide +kernel
theorem dX6_weightOf_52 : decode cX6_weightOf 52 = .ok (.invokevirtual 31, 3) := by decide +kernel
theorem dX6_weightOf_55 : decode cX6_weightOf 55 = .ok (.ireturn, 1) := by decide +kernel
theorem dX6_weightOf_56 : decode cX6_weightOf 56 = .ok (.aload_n 0, 1) := by decide +kernel
theorem dX6_weightOf_57 : decode cX6_weightOf 57 = .ok (.iload_n 2, 1) := by decide +kernel
theorem dX6_weightOf_58 : decode cX6_weightOf 58 = .ok (.iload 5, 2) := by decide +kernel
theorem dX6_weightOf_60 : decode cX6_weightOf 60 = .ok (.invokevirtual 31, 3) := by decide +kernel
theorem dX6_weightOf_63 : decode cX6_weightOf 63 = .ok (.iload 4, 2) := by decide +kernel
theorem dX6_weightOf_65 : decode cX6_weightOf 65 = .ok (.iadd, 1) := by decide +kernel
theorem dX6_weightOf_66 : decode cX6_weightOf 66 = .ok (.istore 6, 2) := by decide +kernel
theorem dX6_weightOf_68 : decode cX6_weightOf 68 = .ok (.iload 6, 2) := by decide +kernel
theorem dX6_weightOf_70 : decode cX6_weightOf 70 = .ok (.sipush 1000, 3) := by decide +kernel
theorem dX6_weightOf_73 : decode cX6_weightOf 73 = .ok (.if_icmp .ge 8, 3) := by decide +kernel
theorem dX6_weightOf_76 : decode cX6_weightOf 76 = .ok (.iload 6, 2) := by decide +kernel
theorem dX6_weightOf_78 : decode cX6_weightOf 78 = .ok (.goto 4, 3) := by decide +kernel
theorem dX6_weightOf_81 : decode cX6_weightOf 81 = .ok (.iconst (-1), 1) := by decide +kernel
theorem dX6_weightOf_82 : decode cX6_weightOf 82 = .ok (.ireturn, 1) := by decide +kernel
theorem dX6_apply_0 : decode cX6_apply 0 = .ok (.iload_n 1, 1) := by decide +kernel
theorem dX6_apply_1 : decode cX6_apply 1 = .ok (.ifCond .ne 14, 3) := by decide +kernel
theorem dX6_apply_4 : decode cX6_apply 4 = .ok (.aload_n 0, 1) := by decide +kernel
theorem dX6_apply_5 : decode cX6_apply 5 = .ok (.iload_n 2, 1) := by decide +kernel
theorem dX6_apply_6 : decode cX6_apply 6 = .ok (.iload_n 3, 1) := by decide +kernel
theorem dX6_apply_7 : decode cX6_apply 7 = .ok (.iload 4, 2) := by decide +kernel
theorem dX6_apply_9 : decode cX6_apply 9 = .ok (.invokevirtual 42, 3) := by decide +kernel
theorem dX6_apply_12 : decode cX6_apply 12 = .ok (.goto 35, 3) := by decide +kernel
theorem dX6_apply_15 : decode cX6_apply 15 = .ok (.iload_n 1, 1) := by decide +kernel
theorem dX6_apply_16 : decode cX6_apply 16 = .ok (.iconst 1, 1) := by decide +kernel
theorem dX6_apply_17 : decode cX6_apply 17 = .ok (.if_icmp .ne 19, 3) := by decide +kernel
theorem dX6_apply_20 : decode cX6_apply 20 = .ok (.aload_n 0, 1) := by decide +kernel
theorem dX6_apply_21 : decode cX6_apply 21 = .ok (.iload_n 2, 1) := by decide +kernel
theorem dX6_apply_22 : decode cX6_apply 22 = .ok (.aload_n 0, 1) := by decide +kernel
theorem dX6_apply_23 : decode cX6_apply 23 = .ok (.iload_n 2, 1) := by decide +kernel
theorem dX6_apply_24 : decode cX6_apply 24 = .ok (.iload_n 3, 1) := by decide +kernel
theorem dX6_apply_25 : decode cX6_apply 25 = .ok (.invokevirtual 39, 3) := by decide +kernel
theorem dX6_apply_28 : decode cX6_apply 28 = .ok (.iload 4, 2) := by decide +kernel
theorem dX6_apply_30 : decode cX6_apply 30 = .ok (.invokevirtual 46, 3) := by decide +kernel
theorem dX6_apply_33 : decode cX6_apply 33 = .ok (.goto 14, 3) := by decide +kernel
theorem dX6_apply_36 : decode cX6_apply 36 = .ok (.aload_n 0, 1) := by decide +kernel
theorem dX6_apply_37 : decode cX6_apply 37 = .ok (.iload_n 2, 1) := by decide +kernel
theorem dX6_apply_38 : decode cX6_apply 38 = .ok (.aload_n 0, 1) := by decide +kernel
theorem dX6_apply_39 : decode cX6_apply 39 = .ok (.iload_n 2, 1) := by decide +kernel
theorem dX6_apply_40 : decode cX6_apply 40 = .ok (.iload_n 3, 1) := by decide +kernel
theorem dX6_apply_41 : decode cX6_apply 41 = .ok (.invokevirtual 39, 3) := by decide +kernel
theorem dX6_apply_44 : decode cX6_apply 44 = .ok (.invokevirtual 49, 3) := by decide +kernel
theorem dX6_apply_47 : decode cX6_apply 47 = .ok (.return_, 1) := by decide +kernel
theorem dX6_insert_0 : decode cX6_insert 0 = .ok (.iload_n 1, 1) := by decide +kernel
theorem dX6_insert_1 : decode cX6_insert 1 = .ok (.iconst 4, 1) := by decide +kernel
theorem dX6_insert_2 : decode cX6_insert 2 = .ok (.invokestatic 27, 3) := by decide +kernel
theorem dX6_insert_5 : decode cX6_insert 5 = .ok (.ifCond .eq 14, 3) := by decide +kernel
theorem dX6_insert_8 : decode cX6_insert 8 = .ok (.aload_n 0, 1) := by decide +kernel
theorem dX6_insert_9 : decode cX6_insert 9 = .ok (.getfield 9, 3) := by decide +kernel
theorem dX6_insert_12 : decode cX6_insert 12 = .ok (.iload_n 1, 1) := by decide +kernel
theorem dX6_insert_13 : decode cX6_insert 13 = .ok (.iaload, 1) := by decide +kernel
theorem dX6_insert_14 : decode cX6_insert 14 = .ok (.bipush 12, 2) := by decide +kernel
theorem dX6_insert_16 : decode cX6_insert 16 = .ok (.if_icmp .lt 4, 3) := by decide +kernel
theorem dX6_insert_19 : decode cX6_insert 19 = .ok (.return_, 1) := by decide +kernel
theorem dX6_insert_20 : decode cX6_insert 20 = .ok (.iload_n 1, 1) := by decide +kernel
theorem dX6_insert_21 : decode cX6_insert 21 = .ok (.bipush 12, 2) := by decide +kernel
theorem dX6_insert_23 : decode cX6_insert 23 = .ok (.imul, 1) := by decide +kernel
theorem dX6_insert_24 : decode cX6_insert 24 = .ok (.istore 4, 2) := by decide +kernel
theorem dX6_insert_26 : decode cX6_insert 26 = .ok (.iload 4, 2) := by decide +kernel
theorem dX6_insert_28 : decode cX6_insert 28 = .ok (.aload_n 0, 1) := by decide +kernel
theorem dX6_insert_29 : decode cX6_insert 29 = .ok (.getfield 9, 3) := by decide +kernel
theorem dX6_insert_32 : decode cX6_insert 32 = .ok (.iload_n 1, 1) := by decide +kernel
theorem dX6_insert_33 : decode cX6_insert 33 = .ok (.iaload, 1) := by decide +kernel
theorem dX6_insert_34 : decode cX6_insert 34 = .ok (.iadd, 1) := by decide +kernel
theorem dX6_insert_35 : decode cX6_insert 35 = .ok (.istore 5, 2) := by decide +kernel
theorem dX6_insert_37 : decode cX6_insert 37 = .ok (.iload 5, 2) := by decide +kernel
theorem dX6_insert_39 : decode cX6_insert 39 = .ok (.iload 4, 2) := by decide +kernel
theorem dX6_insert_41 : decode cX6_insert 41 = .ok (.if_icmp .le 54, 3) := by decide +kernel
theorem dX6_insert_44 : decode cX6_insert 44 = .ok (.aload_n 0, 1) := by decide +kernel
theorem dX6_insert_45 : decode cX6_insert 45 = .ok (.getfield 15, 3) := by decide +kernel
theorem dX6_insert_48 : decode cX6_insert 48 = .ok (.iload 5, 2) := by decide +kernel
theorem dX6_insert_50 : decode cX6_insert 50 = .ok (.iconst 1, 1) := by decide +kernel
theorem dX6_insert_51 : decode cX6_insert 51 = .ok (.isub, 1) := by decide +kernel
theorem dX6_insert_52 : decode cX6_insert 52 = .ok (.iaload, 1) := by decide +kernel
theorem dX6_insert_53 : decode cX6_insert 53 = .ok (.iload_n 2, 1) := by decide +kernel
theorem dX6_insert_54 : decode cX6_insert 54 = .ok (.if_icmp .le 41, 3) := by decide +kernel
theorem dX6_insert_57 : decode cX6_insert 57 = .ok (.aload_n 0, 1) := by decide +kernel
theorem dX6_insert_58 : decode cX6_insert 58 = .ok (.getfield 15, 3) := by decide +kernel
theorem dX6_insert_61 : decode cX6_insert 61 = .ok (.iload 5, 2) := by decide +kernel
theorem dX6_insert_63 : decode cX6_insert 63 = .ok (.aload_n 0, 1) := by decide +kernel
theorem dX6_insert_64 : decode cX6_insert 64 = .ok (.getfield 15, 3) := by decide +kernel
theorem dX6_insert_67 : decode cX6_insert 67 = .ok (.iload 5, 2) := by decide +kernel
theorem dX6_insert_69 : decode cX6_insert 69 = .ok (.iconst 1, 1) := by decide +kernel
theorem dX6_insert_70 : decode cX6_insert 70 = .ok (.isub, 1) := by decide +kernel
theorem dX6_insert_71 : decode cX6_insert 71 = .ok (.iaload, 1) := by decide +kernel
theorem dX6_insert_72 : decode cX6_insert 72 = .ok (.iastore, 1) := by decide +kernel
theorem dX6_insert_73 : decode cX6_insert 73 = .ok (.aload_n 0, 1) := by decide +kernel
theorem dX6_insert_74 : decode cX6_insert 74 = .ok (.getfield 18, 3) := by decide +kernel
theorem dX6_insert_77 : decode cX6_insert 77 = .ok (.iload 5, 2) := by decide +kernel
theorem dX6_insert_79 : decode cX6_insert 79 = .ok (.aload_n 0, 1) := by decide +kernel
theorem dX6_insert_80 : decode cX6_insert 80 = .ok (.getfield 18, 3) := by decide +kernel
theorem dX6_insert_83 : decode cX6_insert 83 = .ok (.iload 5, 2) := by decide +kernel
theorem dX6_insert_85 : decode cX6_insert 85 = .ok (.iconst 1, 1) := by decide +kernel
theorem dX6_insert_86 : decode cX6_insert 86 = .ok (.isub, 1) := by decide +kernel
theorem dX6_insert_87 : decode cX6_insert 87 = .ok (.iaload, 1) := by decide +kernel
theorem dX6_insert_88 : decode cX6_insert 88 = .ok (.iastore, 1) := by decide +kernel
theorem dX6_insert_89 : decode cX6_insert 89 = .ok (.iinc 5 (-1), 3) := by decide +kernel
theorem dX6_insert_92 : decode cX6_insert 92 = .ok (.goto (-55), 3) := by decide +kernel
theorem dX6_insert_95 : decode cX6_insert 95 = .ok (.aload_n 0, 1) := by decide +kernel
theorem dX6_insert_96 : decode cX6_insert 96 = .ok (.getfield 15, 3) := by decide +kernel
theorem dX6_insert_99 : decode cX6_insert 99 = .ok (.iload 5, 2) := by decide +kernel
theorem dX6_insert_101 : decode cX6_insert 101 = .ok (.iload_n 2, 1) := by decide +kernel
theorem dX6_insert_102 : decode cX6_insert 102 = .ok (.iastore, 1) := by decide +kernel
theorem dX6_insert_103 : decode cX6_insert 103 = .ok (.aload_n 0, 1) := by decide +kernel
theorem dX6_insert_104 : decode cX6_insert 104 = .ok (.getfield 18, 3) := by decide +kernel
theorem dX6_insert_107 : decode cX6_insert 107 = .ok (.iload 5, 2) := by decide +kernel
theorem dX6_insert_109 : decode cX6_insert 109 = .ok (.iload_n 3, 1) := by decide +kernel
theorem dX6_insert_110 : decode cX6_insert 110 = .ok (.iastore, 1) := by decide +kernel
theorem dX6_insert_111 : decode cX6_insert 111 = .ok (.aload_n 0, 1) := by decide +kernel
theorem dX6_insert_112 : decode cX6_insert 112 = .ok (.getfield 9, 3) := by decide +kernel
theorem dX6_insert_115 : decode cX6_insert 115 = .ok (.iload_n 1, 1) := by decide +kernel
theorem dX6_insert_116 : decode cX6_insert 116 = .ok (.dup2, 1) := by decide +kernel
theorem dX6_insert_117 : decode cX6_insert 117 = .ok (.iaload, 1) := by decide +kernel
theorem dX6_insert_118 : decode cX6_insert 118 = .ok (.iconst 1, 1) := by decide +kernel
theorem dX6_insert_119 : decode cX6_insert 119 = .ok (.iadd, 1) := by decide +kernel
theorem dX6_insert_120 : decode cX6_insert 120 = .ok (.iastore, 1) := by decide +kernel
theorem dX6_insert_121 : decode cX6_insert 121 = .ok (.return_, 1) := by decide +kernel
theorem dX6_renumber_0 : decode cX6_renumber 0 = .ok (.iload_n 1, 1) := by decide +kernel
theorem dX6_renumber_1 : decode cX6_renumber 1 = .ok (.iconst 4, 1) := by decide +kernel
theorem dX6_renumber_2 : decode cX6_renumber 2 = .ok (.invokestatic 27, 3) := by decide +kernel
theorem dX6_renumber_5 : decode cX6_renumber 5 = .ok (.ifCond .eq 28, 3) := by decide +kernel
theorem dX6_renumber_8 : decode cX6_renumber 8 = .ok (.iload_n 2, 1) := by decide +kernel
theorem dX6_renumber_9 : decode cX6_renumber 9 = .ok (.aload_n 0, 1) := by decide +kernel
theorem dX6_renumber_10 : decode cX6_renumber 10 = .ok (.getfield 9, 3) := by decide +kernel
theorem dX6_renumber_13 : decode cX6_renumber 13 = .ok (.iload_n 1, 1) := by decide +kernel
theorem dX6_renumber_14 : decode cX6_renumber 14 = .ok (.iaload, 1) := by decide +kernel
theorem dX6_renumber_15 : decode cX6_renumber 15 = .ok (.invokestatic 27, 3) := by decide +kernel
theorem dX6_renumber_18 : decode cX6_renumber 18 = .ok (.ifCond .eq 15, 3) := by decide +kernel
theorem dX6_renumber_21 : decode cX6_renumber 21 = .ok (.aload_n 0, 1) := by decide +kernel
theorem dX6_renumber_22 : decode cX6_renumber 22 = .ok (.getfield 18, 3) := by decide +kernel
theorem dX6_renumber_25 : decode cX6_renumber 25 = .ok (.iload_n 1, 1) := by decide +kernel
theorem dX6_renumber_26 : decode cX6_renumber 26 = .ok (.bipush 12, 2) := by decide +kernel
theorem dX6_renumber_28 : decode cX6_renumber 28 = .ok (.imul, 1) := by decide +kernel
theorem dX6_renumber_29 : decode cX6_renumber 29 = .ok (.iload_n 2, 1) := by decide +kernel
theorem dX6_renumber_30 : decode cX6_renumber 30 = .ok (.iadd, 1) := by decide +kernel
theorem dX6_renumber_31 : decode cX6_renumber 31 = .ok (.iload_n 3, 1) := by decide +kernel
theorem dX6_renumber_32 : decode cX6_renumber 32 = .ok (.iastore, 1) := by decide +kernel
theorem dX6_renumber_33 : decode cX6_renumber 33 = .ok (.return_, 1) := by decide +kernel
theorem dX6_remove_0 : decode cX6_remove 0 = .ok (.iload_n 1, 1) := by decide +kernel
theorem dX6_remove_1 : decode cX6_remove 1 = .ok (.iconst 4, 1) := by decide +kernel
theorem dX6_remove_2 : decode cX6_remove 2 = .ok (.invokestatic 27, 3) := by decide +kernel
theorem dX6_remove_5 : decode cX6_remove 5 = .ok (.ifCond .eq 16, 3) := by decide +kernel
theorem dX6_remove_8 : decode cX6_remove 8 = .ok (.iload_n 2, 1) := by decide +kernel
theorem dX6_remove_9 : decode cX6_remove 9 = .ok (.aload_n 0, 1) := by decide +kernel
theorem dX6_remove_10 : decode cX6_remove 10 = .ok (.getfield 9, 3) := by decide +kernel
theorem dX6_remove_13 : decode cX6_remove 13 = .ok (.iload_n 1, 1) := by decide +kernel
theorem dX6_remove_14 : decode cX6_remove 14 = .ok (.iaload, 1) := by decide +kernel
theorem dX6_remove_15 : decode cX6_remove 15 = .ok (.invokestatic 27, 3) := by decide +kernel
theorem dX6_remove_18 : decode cX6_remove 18 = .ok (.ifCond .ne 4, 3) := by decide +kernel
theorem dX6_remove_21 : decode cX6_remove 21 = .ok (.return_, 1) := by decide +kernel
theorem dX6_remove_22 : decode cX6_remove 22 = .ok (.aload_n 0, 1) := by decide +kernel
theorem dX6_remove_23 : decode cX6_remove 23 = .ok (.getfield 9, 3) := by decide +kernel
theorem dX6_remove_26 : decode cX6_remove 26 = .ok (.iload_n 1, 1) := by decide +kernel
theorem dX6_remove_27 : decode cX6_remove 27 = .ok (.dup2, 1) := by decide +kernel
theorem dX6_remove_28 : decode cX6_remove 28 = .ok (.iaload, 1) := by decide +kernel
theorem dX6_remove_29 : decode cX6_remove 29 = .ok (.iconst 1, 1) := by decide +kernel
theorem dX6_remove_30 : decode cX6_remove 30 = .ok (.isub, 1) := by decide +kernel
theorem dX6_remove_31 : decode cX6_remove 31 = .ok (.iastore, 1) := by decide +kernel
theorem dX6_remove_32 : decode cX6_remove 32 = .ok (.iload_n 1, 1) := by decide +kernel
theorem dX6_remove_33 : decode cX6_remove 33 = .ok (.bipush 12, 2) := by decide +kernel
theorem dX6_remove_35 : decode cX6_remove 35 = .ok (.imul, 1) := by decide +kernel
theorem dX6_remove_36 : decode cX6_remove 36 = .ok (.aload_n 0, 1) := by decide +kernel
theorem dX6_remove_37 : decode cX6_remove 37 = .ok (.getfield 9, 3) := by decide +kernel
theorem dX6_remove_40 : decode cX6_remove 40 = .ok (.iload_n 1, 1) := by decide +kernel
theorem dX6_remove_41 : decode cX6_remove 41 = .ok (.iaload, 1) := by decide +kernel
theorem dX6_remove_42 : decode cX6_remove 42 = .ok (.iadd, 1) := by decide +kernel
theorem dX6_remove_43 : decode cX6_remove 43 = .ok (.istore_n 3, 1) := by decide +kernel
theorem dX6_remove_44 : decode cX6_remove 44 = .ok (.iload_n 1, 1) := by decide +kernel
theorem dX6_remove_45 : decode cX6_remove 45 = .ok (.bipush 12, 2) := by decide +kernel
theorem dX6_remove_47 : decode cX6_remove 47 = .ok (.imul, 1) := by decide +kernel
theorem dX6_remove_48 : decode cX6_remove 48 = .ok (.iload_n 2, 1) := by decide +kernel
theorem dX6_remove_49 : decode cX6_remove 49 = .ok (.iadd, 1) := by decide +kernel
theorem dX6_remove_50 : decode cX6_remove 50 = .ok (.istore 4, 2) := by decide +kernel
theorem dX6_remove_52 : decode cX6_remove 52 = .ok (.iload 4, 2) := by decide +kernel
theorem dX6_remove_54 : decode cX6_remove 54 = .ok (.iload_n 3, 1) := by decide +kernel
theorem dX6_remove_55 : decode cX6_remove 55 = .ok (.if_icmp .ge 41, 3) := by decide +kernel
theorem dX6_remove_58 : decode cX6_remove 58 = .ok (.aload_n 0, 1) := by decide +kernel
theorem dX6_remove_59 : decode cX6_remove 59 = .ok (.getfield 15, 3) := by decide +kernel
theorem dX6_remove_62 : decode cX6_remove 62 = .ok (.iload 4, 2) := by decide +kernel
theorem dX6_remove_64 : decode cX6_remove 64 = .ok (.aload_n 0, 1) := by decide +kernel
theorem dX6_remove_65 : decode cX6_remove 65 = .ok (.getfield 15, 3) := by decide +kernel
theorem dX6_remove_68 : decode cX6_remove 68 = .ok (.iload 4, 2) := by decide +kernel
theorem dX6_remove_70 : decode cX6_remove 70 = .ok (.iconst 1, 1) := by decide +kernel
theorem dX6_remove_71 : decode cX6_remove 71 = .ok (.iadd, 1) := by decide +kernel
theorem dX6_remove_72 : decode cX6_remove 72 = .ok (.iaload, 1) := by decide +kernel
theorem dX6_remove_73 : decode cX6_remove 73 = .ok (.iastore, 1) := by decide +kernel
theorem dX6_remove_74 : decode cX6_remove 74 = .ok (.aload_n 0, 1) := by decide +kernel
theorem dX6_remove_75 : decode cX6_remove 75 = .ok (.getfield 18, 3) := by decide +kernel
theorem dX6_remove_78 : decode cX6_remove 78 = .ok (.iload 4, 2) := by decide +kernel
theorem dX6_remove_80 : decode cX6_remove 80 = .ok (.aload_n 0, 1) := by decide +kernel
theorem dX6_remove_81 : decode cX6_remove 81 = .ok (.getfield 18, 3) := by decide +kernel
theorem dX6_remove_84 : decode cX6_remove 84 = .ok (.iload 4, 2) := by decide +kernel
theorem dX6_remove_86 : decode cX6_remove 86 = .ok (.iconst 1, 1) := by decide +kernel
theorem dX6_remove_87 : decode cX6_remove 87 = .ok (.iadd, 1) := by decide +kernel
theorem dX6_remove_88 : decode cX6_remove 88 = .ok (.iaload, 1) := by decide +kernel
theorem dX6_remove_89 : decode cX6_remove 89 = .ok (.iastore, 1) := by decide +kernel
theorem dX6_remove_90 : decode cX6_remove 90 = .ok (.iinc 4 1, 3) := by decide +kernel
theorem dX6_remove_93 : decode cX6_remove 93 = .ok (.goto (-41), 3) := by decide +kernel
theorem dX6_remove_96 : decode cX6_remove 96 = .ok (.return_, 1) := by decide +kernel
theorem dX7_init_0 : decode cX7_init 0 = .ok (.aload_n 0, 1) := by decide +kernel
theorem dX7_init_1 : decode cX7_init 1 = .ok (.invokespecial 3, 3) := by decide +kernel
theorem dX7_init_4 : decode cX7_init 4 = .ok (.aload_n 0, 1) := by decide +kernel
theorem dX7_init_5 : decode cX7_init 5 = .ok (.new 9, 3) := by decide +kernel
theorem dX7_init_8 : decode cX7_init 8 = .ok (.dup, 1) := by decide +kernel
theorem dX7_init_9 : decode cX7_init 9 = .ok (.bipush 12, 2) := by decide +kernel
theorem dX7_init_11 : decode cX7_init 11 = .ok (.bipush 8, 2) := by decide +kernel
theorem dX7_init_13 : decode cX7_init 13 = .ok (.invokespecial 13, 3) := by decide +kernel
theorem dX7_init_16 : decode cX7_init 16 = .ok (.putfield 16, 3) := by decide +kernel
theorem dX7_init_19 : decode cX7_init 19 = .ok (.return_, 1) := by decide +kernel
theorem dX7_copyFrom_0 : decode cX7_copyFrom 0 = .ok (.aload_n 0, 1) := by decide +kernel
theorem dX7_copyFrom_1 : decode cX7_copyFrom 1 = .ok (.getfield 16, 3) := by decide +kernel
theorem dX7_copyFrom_4 : decode cX7_copyFrom 4 = .ok (.aload_n 1, 1) := by decide +kernel
theorem dX7_copyFrom_5 : decode cX7_copyFrom 5 = .ok (.getfield 16, 3) := by decide +kernel
theorem dX7_copyFrom_8 : decode cX7_copyFrom 8 = .ok (.invokevirtual 20, 3) := by decide +kernel
theorem dX7_copyFrom_11 : decode cX7_copyFrom 11 = .ok (.return_, 1) := by decide +kernel
theorem dX7_size_0 : decode cX7_size 0 = .ok (.aload_n 0, 1) := by decide +kernel
theorem dX7_size_1 : decode cX7_size 1 = .ok (.getfield 16, 3) := by decide +kernel
theorem dX7_size_4 : decode cX7_size 4 = .ok (.invokevirtual 24, 3) := by decide +kernel
theorem dX7_size_7 : decode cX7_size 7 = .ok (.ireturn, 1) := by decide +kernel
theorem dX7_get_0 : decode cX7_get 0 = .ok (.aload_n 0, 1) := by decide +kernel
theorem dX7_get_1 : decode cX7_get 1 = .ok (.getfield 16, 3) := by decide +kernel
theorem dX7_get_4 : decode cX7_get 4 = .ok (.iload_n 1, 1) := by decide +kernel
theorem dX7_get_5 : decode cX7_get 5 = .ok (.iload_n 2, 1) := by decide +kernel
theorem dX7_get_6 : decode cX7_get 6 = .ok (.invokevirtual 28, 3) := by decide +kernel
theorem dX7_get_9 : decode cX7_get 9 = .ok (.ireturn, 1) := by decide +kernel
theorem dX7_append_0 : decode cX7_append 0 = .ok (.aload_n 0, 1) := by decide +kernel
theorem dX7_append_1 : decode cX7_append 1 = .ok (.getfield 16, 3) := by decide +kernel
theorem dX7_append_4 : decode cX7_append 4 = .ok (.invokevirtual 32, 3) := by decide +kernel
theorem dX7_append_7 : decode cX7_append 7 = .ok (.istore 5, 2) := by decide +kernel
theorem dX7_append_9 : decode cX7_append 9 = .ok (.aload_n 0, 1) := by decide +kernel
theorem dX7_append_10 : decode cX7_append 10 = .ok (.getfield 16, 3) := by decide +kernel
theorem dX7_append_13 : decode cX7_append 13 = .ok (.iload 5, 2) := by decide +kernel
theorem dX7_append_15 : decode cX7_append 15 = .ok (.iconst 0, 1) := by decide +kernel
theorem dX7_append_16 : decode cX7_append 16 = .ok (.iload_n 1, 1) := by decide +kernel
theorem dX7_append_17 : decode cX7_append 17 = .ok (.invokevirtual 35, 3) := by decide +kernel
theorem dX7_append_20 : decode cX7_append 20 = .ok (.aload_n 0, 1) := by decide +kernel
theorem dX7_append_21 : decode cX7_append 21 = .ok (.getfield 16, 3) := by decide +kernel
theorem dX7_append_24 : decode cX7_append 24 = .ok (.iload 5, 2) := by decide +kernel
theorem dX7_append_26 : decode cX7_append 26 = .ok (.iconst 1, 1) := by decide +kernel
theorem dX7_append_27 : decode cX7_append 27 = .ok (.iload_n 2, 1) := by decide +kernel
theorem dX7_append_28 : decode cX7_append 28 = .ok (.invokevirtual 35, 3) := by decide +kernel
theorem dX7_append_31 : decode cX7_append 31 = .ok (.aload_n 0, 1) := by decide +kernel
theorem dX7_append_32 : decode cX7_append 32 = .ok (.getfield 16, 3) := by decide +kernel
theorem dX7_append_35 : decode cX7_append 35 = .ok (.iload 5, 2) := by decide +kernel
theorem dX7_append_37 : decode cX7_append 37 = .ok (.iconst 2, 1) := by decide +kernel
theorem dX7_append_38 : decode cX7_append 38 = .ok (.iload_n 3, 1) := by decide +kernel
theorem dX7_append_39 : decode cX7_append 39 = .ok (.invokevirtual 35, 3) := by decide +kernel
theorem dX7_append_42 : decode cX7_append 42 = .ok (.aload_n 0, 1) := by decide +kernel
theorem dX7_append_43 : decode cX7_append 43 = .ok (.getfield 16, 3) := by decide +kernel
theorem dX7_append_46 : decode cX7_append 46 = .ok (.iload 5, 2) := by decide +kernel
theorem dX7_append_48 : decode cX7_append 48 = .ok (.iconst 3, 1) := by decide +kernel
theorem dX7_append_49 : decode cX7_append 49 = .ok (.iload 4, 2) := by decide +kernel
theorem dX7_append_51 : decode cX7_append 51 = .ok (.invokevirtual 35, 3) := by decide +kernel
theorem dX7_append_54 : decode cX7_append 54 = .ok (.aload_n 0, 1) := by decide +kernel
theorem dX7_append_55 : decode cX7_append 55 = .ok (.iload 5, 2) := by decide +kernel
theorem dX7_append_57 : decode cX7_append 57 = .ok (.iconst 0, 1) := by decide +kernel
theorem dX7_append_58 : decode cX7_append 58 = .ok (.iconst 0, 1) := by decide +kernel
theorem dX7_append_59 : decode cX7_append 59 = .ok (.iconst 0, 1) := by decide +kernel
theorem dX7_append_60 : decode cX7_append 60 = .ok (.iconst 0, 1) := by decide +kernel
theorem dX7_append_61 : decode cX7_append 61 = .ok (.invokevirtual 39, 3) := by decide +kernel
theorem dX7_append_64 : decode cX7_append 64 = .ok (.iload 5, 2) := by decide +kernel
theorem dX7_append_66 : decode cX7_append 66 = .ok (.ireturn, 1) := by decide +kernel
theorem dX7_giveDeed_0 : decode cX7_giveDeed 0 = .ok (.aload_n 0, 1) := by decide +kernel
theorem dX7_giveDeed_1 : decode cX7_giveDeed 1 = .ok (.getfield 16, 3) := by decide +kernel
theorem dX7_giveDeed_4 : decode cX7_giveDeed 4 = .ok (.iload_n 1, 1) := by decide +kernel
theorem dX7_giveDeed_5 : decode cX7_giveDeed 5 = .ok (.iconst 4, 1) := by decide +kernel
theorem dX7_giveDeed_6 : decode cX7_giveDeed 6 = .ok (.iload_n 2, 1) := by decide +kernel
theorem dX7_giveDeed_7 : decode cX7_giveDeed 7 = .ok (.invokevirtual 35, 3) := by decide +kernel
theorem dX7_giveDeed_10 : decode cX7_giveDeed 10 = .ok (.aload_n 0, 1) := by decide +kernel
theorem dX7_giveDeed_11 : decode cX7_giveDeed 11 = .ok (.getfield 16, 3) := by decide +kernel
theorem dX7_giveDeed_14 : decode cX7_giveDeed 14 = .ok (.iload_n 1, 1) := by decide +kernel
theorem dX7_giveDeed_15 : decode cX7_giveDeed 15 = .ok (.iconst 5, 1) := by decide +kernel
theorem dX7_giveDeed_16 : decode cX7_giveDeed 16 = .ok (.iload_n 3, 1) := by decide +kernel
theorem dX7_giveDeed_17 : decode cX7_giveDeed 17 = .ok (.invokevirtual 35, 3) := by decide +kernel
theorem dX7_giveDeed_20 : decode cX7_giveDeed 20 = .ok (.aload_n 0, 1) := by decide +kernel
theorem dX7_giveDeed_21 : decode cX7_giveDeed 21 = .ok (.getfield 16, 3) := by decide +kernel
theorem dX7_giveDeed_24 : decode cX7_giveDeed 24 = .ok (.iload_n 1, 1) := by decide +kernel
theorem dX7_giveDeed_25 : decode cX7_giveDeed 25 = .ok (.bipush 6, 2) := by decide +kernel
theorem dX7_giveDeed_27 : decode cX7_giveDeed 27 = .ok (.iload 4, 2) := by decide +kernel
theorem dX7_giveDeed_29 : decode cX7_giveDeed 29 = .ok (.invokevirtual 35, 3) := by decide +kernel
theorem dX7_giveDeed_32 : decode cX7_giveDeed 32 = .ok (.aload_n 0, 1) := by decide +kernel
theorem dX7_giveDeed_33 : decode cX7_giveDeed 33 = .ok (.getfield 16, 3) := by decide +kernel
theorem dX7_giveDeed_36 : decode cX7_giveDeed 36 = .ok (.iload_n 1, 1) := by decide +kernel
theorem dX7_giveDeed_37 : decode cX7_giveDeed 37 = .ok (.bipush 7, 2) := by decide +kernel
theorem dX7_giveDeed_39 : decode cX7_giveDeed 39 = .ok (.iload 5, 2) := by decide +kernel
theorem dX7_giveDeed_41 : decode cX7_giveDeed 41 = .ok (.invokevirtual 35, 3) := by decide +kernel
theorem dX7_giveDeed_44 : decode cX7_giveDeed 44 = .ok (.return_, 1) := by decide +kernel
theorem dX7_remove_0 : decode cX7_remove 0 = .ok (.aload_n 0, 1) := by decide +kernel
theorem dX7_remove_1 : decode cX7_remove 1 = .ok (.getfield 16, 3) := by decide +kernel
theorem dX7_remove_4 : decode cX7_remove 4 = .ok (.iload_n 1, 1) := by decide +kernel
theorem dX7_remove_5 : decode cX7_remove 5 = .ok (.invokevirtual 43, 3) := by decide +kernel
