/-! what each instruction of the program is (printed by program) -/
theorem dX9_rows_4 : decode cX9_rows 4 = .ok (.iconst 2, 1) := by decide +kernel
theorem dX9_rows_5 : decode cX9_rows 5 = .ok (.bipush 25, 2) := by decide +kernel
theorem dX9_rows_7 : decode cX9_rows 7 = .ok (.iload_n 1, 1) := by decide +kernel
theorem dX9_rows_8 : decode cX9_rows 8 = .ok (.imul, 1) := by decide +kernel
theorem dX9_rows_9 : decode cX9_rows 9 = .ok (.iadd, 1) := by decide +kernel
theorem dX9_rows_10 : decode cX9_rows 10 = .ok (.iaload, 1) := by decide +kernel
theorem dX9_rows_11 : decode cX9_rows 11 = .ok (.ireturn, 1) := by decide +kernel
theorem dX9_placeOf_0 : decode cX9_placeOf 0 = .ok (.iconst 0, 1) := by decide +kernel
theorem dX9_placeOf_1 : decode cX9_placeOf 1 = .ok (.istore_n 3, 1) := by decide +kernel
theorem dX9_placeOf_2 : decode cX9_placeOf 2 = .ok (.iload_n 3, 1) := by decide +kernel
theorem dX9_placeOf_3 : decode cX9_placeOf 3 = .ok (.aload_n 0, 1) := by decide +kernel
theorem dX9_placeOf_4 : decode cX9_placeOf 4 = .ok (.iload_n 1, 1) := by decide +kernel
theorem dX9_placeOf_5 : decode cX9_placeOf 5 = .ok (.invokevirtual 100, 3) := by decide +kernel
theorem dX9_placeOf_8 : decode cX9_placeOf 8 = .ok (.if_icmp .ge 25, 3) := by decide +kernel
theorem dX9_placeOf_11 : decode cX9_placeOf 11 = .ok (.aload_n 0, 1) := by decide +kernel
theorem dX9_placeOf_12 : decode cX9_placeOf 12 = .ok (.getfield 7, 3) := by decide +kernel
theorem dX9_placeOf_15 : decode cX9_placeOf 15 = .ok (.iload_n 1, 1) := by decide +kernel
theorem dX9_placeOf_16 : decode cX9_placeOf 16 = .ok (.iload_n 3, 1) := by decide +kernel
theorem dX9_placeOf_17 : decode cX9_placeOf 17 = .ok (.invokestatic 104, 3) := by decide +kernel
theorem dX9_placeOf_20 : decode cX9_placeOf 20 = .ok (.iaload, 1) := by decide +kernel
theorem dX9_placeOf_21 : decode cX9_placeOf 21 = .ok (.iload_n 2, 1) := by decide +kernel
theorem dX9_placeOf_22 : decode cX9_placeOf 22 = .ok (.if_icmp .ne 5, 3) := by decide +kernel
theorem dX9_placeOf_25 : decode cX9_placeOf 25 = .ok (.iload_n 3, 1) := by decide +kernel
theorem dX9_placeOf_26 : decode cX9_placeOf 26 = .ok (.ireturn, 1) := by decide +kernel
theorem dX9_placeOf_27 : decode cX9_placeOf 27 = .ok (.iinc 3 1, 3) := by decide +kernel
theorem dX9_placeOf_30 : decode cX9_placeOf 30 = .ok (.goto (-28), 3) := by decide +kernel
theorem dX9_placeOf_33 : decode cX9_placeOf 33 = .ok (.bipush (-6), 2) := by decide +kernel
theorem dX9_placeOf_35 : decode cX9_placeOf 35 = .ok (.ireturn, 1) := by decide +kernel
theorem dX9_numberOf_0 : decode cX9_numberOf 0 = .ok (.aload_n 0, 1) := by decide +kernel
theorem dX9_numberOf_1 : decode cX9_numberOf 1 = .ok (.iload_n 1, 1) := by decide +kernel
theorem dX9_numberOf_2 : decode cX9_numberOf 2 = .ok (.iload_n 2, 1) := by decide +kernel
theorem dX9_numberOf_3 : decode cX9_numberOf 3 = .ok (.invokevirtual 108, 3) := by decide +kernel
theorem dX9_numberOf_6 : decode cX9_numberOf 6 = .ok (.istore_n 3, 1) := by decide +kernel
theorem dX9_numberOf_7 : decode cX9_numberOf 7 = .ok (.iload_n 3, 1) := by decide +kernel
theorem dX9_numberOf_8 : decode cX9_numberOf 8 = .ok (.bipush (-6), 2) := by decide +kernel
theorem dX9_numberOf_10 : decode cX9_numberOf 10 = .ok (.if_icmp .ne 8, 3) := by decide +kernel
theorem dX9_numberOf_13 : decode cX9_numberOf 13 = .ok (.bipush (-6), 2) := by decide +kernel
theorem dX9_numberOf_15 : decode cX9_numberOf 15 = .ok (.goto 15, 3) := by decide +kernel
theorem dX9_numberOf_18 : decode cX9_numberOf 18 = .ok (.aload_n 0, 1) := by decide +kernel
theorem dX9_numberOf_19 : decode cX9_numberOf 19 = .ok (.getfield 7, 3) := by decide +kernel
theorem dX9_numberOf_22 : decode cX9_numberOf 22 = .ok (.iload_n 1, 1) := by decide +kernel
theorem dX9_numberOf_23 : decode cX9_numberOf 23 = .ok (.iload_n 3, 1) := by decide +kernel
theorem dX9_numberOf_24 : decode cX9_numberOf 24 = .ok (.invokestatic 104, 3) := by decide +kernel
theorem dX9_numberOf_27 : decode cX9_numberOf 27 = .ok (.iconst 1, 1) := by decide +kernel
theorem dX9_numberOf_28 : decode cX9_numberOf 28 = .ok (.iadd, 1) := by decide +kernel
theorem dX9_numberOf_29 : decode cX9_numberOf 29 = .ok (.iaload, 1) := by decide +kernel
theorem dX9_numberOf_30 : decode cX9_numberOf 30 = .ok (.ireturn, 1) := by decide +kernel
theorem dX9_isPossible_0 : decode cX9_isPossible 0 = .ok (.aload_n 0, 1) := by decide +kernel
theorem dX9_isPossible_1 : decode cX9_isPossible 1 = .ok (.iload_n 2, 1) := by decide +kernel
theorem dX9_isPossible_2 : decode cX9_isPossible 2 = .ok (.iload_n 3, 1) := by decide +kernel
theorem dX9_isPossible_3 : decode cX9_isPossible 3 = .ok (.invokevirtual 111, 3) := by decide +kernel
theorem dX9_isPossible_6 : decode cX9_isPossible 6 = .ok (.istore 5, 2) := by decide +kernel
theorem dX9_isPossible_8 : decode cX9_isPossible 8 = .ok (.iload_n 1, 1) := by decide +kernel
theorem dX9_isPossible_9 : decode cX9_isPossible 9 = .ok (.ifCond .ne 28, 3) := by decide +kernel
theorem dX9_isPossible_12 : decode cX9_isPossible 12 = .ok (.iload 5, 2) := by decide +kernel
theorem dX9_isPossible_14 : decode cX9_isPossible 14 = .ok (.bipush (-6), 2) := by decide +kernel
theorem dX9_isPossible_16 : decode cX9_isPossible 16 = .ok (.if_icmp .ne 17, 3) := by decide +kernel
theorem dX9_isPossible_19 : decode cX9_isPossible 19 = .ok (.aload_n 0, 1) := by decide +kernel
theorem dX9_isPossible_20 : decode cX9_isPossible 20 = .ok (.iload_n 2, 1) := by decide +kernel
theorem dX9_isPossible_21 : decode cX9_isPossible 21 = .ok (.invokevirtual 100, 3) := by decide +kernel
theorem dX9_isPossible_24 : decode cX9_isPossible 24 = .ok (.bipush 12, 2) := by decide +kernel
theorem dX9_isPossible_26 : decode cX9_isPossible 26 = .ok (.if_icmp .ge 7, 3) := by decide +kernel
theorem dX9_isPossible_29 : decode cX9_isPossible 29 = .ok (.iconst 1, 1) := by decide +kernel
theorem dX9_isPossible_30 : decode cX9_isPossible 30 = .ok (.goto 35, 3) := by decide +kernel
theorem dX9_isPossible_33 : decode cX9_isPossible 33 = .ok (.iconst 0, 1) := by decide +kernel
theorem dX9_isPossible_34 : decode cX9_isPossible 34 = .ok (.goto 31, 3) := by decide +kernel
theorem dX9_isPossible_37 : decode cX9_isPossible 37 = .ok (.iload 5, 2) := by decide +kernel
theorem dX9_isPossible_39 : decode cX9_isPossible 39 = .ok (.bipush (-6), 2) := by decide +kernel
theorem dX9_isPossible_41 : decode cX9_isPossible 41 = .ok (.if_icmp .eq 23, 3) := by decide +kernel
theorem dX9_isPossible_44 : decode cX9_isPossible 44 = .ok (.iload_n 1, 1) := by decide +kernel
theorem dX9_isPossible_45 : decode cX9_isPossible 45 = .ok (.iconst 2, 1) := by decide +kernel
theorem dX9_isPossible_46 : decode cX9_isPossible 46 = .ok (.if_icmp .eq 14, 3) := by decide +kernel
theorem dX9_isPossible_49 : decode cX9_isPossible 49 = .ok (.iload 5, 2) := by decide +kernel
theorem dX9_isPossible_51 : decode cX9_isPossible 51 = .ok (.iload 4, 2) := by decide +kernel
theorem dX9_isPossible_53 : decode cX9_isPossible 53 = .ok (.iadd, 1) := by decide +kernel
theorem dX9_isPossible_54 : decode cX9_isPossible 54 = .ok (.sipush 999, 3) := by decide +kernel
theorem dX9_isPossible_57 : decode cX9_isPossible 57 = .ok (.if_icmp .gt 7, 3) := by decide +kernel
theorem dX9_isPossible_60 : decode cX9_isPossible 60 = .ok (.iconst 1, 1) := by decide +kernel
theorem dX9_isPossible_61 : decode cX9_isPossible 61 = .ok (.goto 4, 3) := by decide +kernel
theorem dX9_isPossible_64 : decode cX9_isPossible 64 = .ok (.iconst 0, 1) := by decide +kernel
theorem dX9_isPossible_65 : decode cX9_isPossible 65 = .ok (.ireturn, 1) := by decide +kernel
theorem dX9_lays_0 : decode cX9_lays 0 = .ok (.aload_n 0, 1) := by decide +kernel
theorem dX9_lays_1 : decode cX9_lays 1 = .ok (.iload_n 1, 1) := by decide +kernel
theorem dX9_lays_2 : decode cX9_lays 2 = .ok (.invokevirtual 100, 3) := by decide +kernel
theorem dX9_lays_5 : decode cX9_lays 5 = .ok (.istore 4, 2) := by decide +kernel
theorem dX9_lays_7 : decode cX9_lays 7 = .ok (.iload 4, 2) := by decide +kernel
theorem dX9_lays_9 : decode cX9_lays 9 = .ok (.ifCond .le 78, 3) := by decide +kernel
theorem dX9_lays_12 : decode cX9_lays 12 = .ok (.aload_n 0, 1) := by decide +kernel
theorem dX9_lays_13 : decode cX9_lays 13 = .ok (.getfield 7, 3) := by decide +kernel
theorem dX9_lays_16 : decode cX9_lays 16 = .ok (.iload_n 1, 1) := by decide +kernel
theorem dX9_lays_17 : decode cX9_lays 17 = .ok (.iload 4, 2) := by decide +kernel
theorem dX9_lays_19 : decode cX9_lays 19 = .ok (.iconst 1, 1) := by decide +kernel
theorem dX9_lays_20 : decode cX9_lays 20 = .ok (.isub, 1) := by decide +kernel
theorem dX9_lays_21 : decode cX9_lays 21 = .ok (.invokestatic 104, 3) := by decide +kernel
theorem dX9_lays_24 : decode cX9_lays 24 = .ok (.iaload, 1) := by decide +kernel
theorem dX9_lays_25 : decode cX9_lays 25 = .ok (.iload_n 2, 1) := by decide +kernel
theorem dX9_lays_26 : decode cX9_lays 26 = .ok (.if_icmp .le 61, 3) := by decide +kernel
theorem dX9_lays_29 : decode cX9_lays 29 = .ok (.aload_n 0, 1) := by decide +kernel
theorem dX9_lays_30 : decode cX9_lays 30 = .ok (.getfield 7, 3) := by decide +kernel
theorem dX9_lays_33 : decode cX9_lays 33 = .ok (.iload_n 1, 1) := by decide +kernel
theorem dX9_lays_34 : decode cX9_lays 34 = .ok (.iload 4, 2) := by decide +kernel
theorem dX9_lays_36 : decode cX9_lays 36 = .ok (.invokestatic 104, 3) := by decide +kernel
theorem dX9_lays_39 : decode cX9_lays 39 = .ok (.aload_n 0, 1) := by decide +kernel
theorem dX9_lays_40 : decode cX9_lays 40 = .ok (.getfield 7, 3) := by decide +kernel
theorem dX9_lays_43 : decode cX9_lays 43 = .ok (.iload_n 1, 1) := by decide +kernel
theorem dX9_lays_44 : decode cX9_lays 44 = .ok (.iload 4, 2) := by decide +kernel
theorem dX9_lays_46 : decode cX9_lays 46 = .ok (.iconst 1, 1) := by decide +kernel
theorem dX9_lays_47 : decode cX9_lays 47 = .ok (.isub, 1) := by decide +kernel
theorem dX9_lays_48 : decode cX9_lays 48 = .ok (.invokestatic 104, 3) := by decide +kernel
theorem dX9_lays_51 : decode cX9_lays 51 = .ok (.iaload, 1) := by decide +kernel
theorem dX9_lays_52 : decode cX9_lays 52 = .ok (.iastore, 1) := by decide +kernel
theorem dX9_lays_53 : decode cX9_lays 53 = .ok (.aload_n 0, 1) := by decide +kernel
theorem dX9_lays_54 : decode cX9_lays 54 = .ok (.getfield 7, 3) := by decide +kernel
theorem dX9_lays_57 : decode cX9_lays 57 = .ok (.iload_n 1, 1) := by decide +kernel
theorem dX9_lays_58 : decode cX9_lays 58 = .ok (.iload 4, 2) := by decide +kernel
theorem dX9_lays_60 : decode cX9_lays 60 = .ok (.invokestatic 104, 3) := by decide +kernel
theorem dX9_lays_63 : decode cX9_lays 63 = .ok (.iconst 1, 1) := by decide +kernel
theorem dX9_lays_64 : decode cX9_lays 64 = .ok (.iadd, 1) := by decide +kernel
theorem dX9_lays_65 : decode cX9_lays 65 = .ok (.aload_n 0, 1) := by decide +kernel
theorem dX9_lays_66 : decode cX9_lays 66 = .ok (.getfield 7, 3) := by decide +kernel
theorem dX9_lays_69 : decode cX9_lays 69 = .ok (.iload_n 1, 1) := by decide +kernel
theorem dX9_lays_70 : decode cX9_lays 70 = .ok (.iload 4, 2) := by decide +kernel
theorem dX9_lays_72 : decode cX9_lays 72 = .ok (.iconst 1, 1) := by decide +kernel
theorem dX9_lays_73 : decode cX9_lays 73 = .ok (.isub, 1) := by decide +kernel
theorem dX9_lays_74 : decode cX9_lays 74 = .ok (.invokestatic 104, 3) := by decide +kernel
theorem dX9_lays_77 : decode cX9_lays 77 = .ok (.iconst 1, 1) := by decide +kernel
theorem dX9_lays_78 : decode cX9_lays 78 = .ok (.iadd, 1) := by decide +kernel
theorem dX9_lays_79 : decode cX9_lays 79 = .ok (.iaload, 1) := by decide +kernel
theorem dX9_lays_80 : decode cX9_lays 80 = .ok (.iastore, 1) := by decide +kernel
theorem dX9_lays_81 : decode cX9_lays 81 = .ok (.iinc 4 (-1), 3) := by decide +kernel
theorem dX9_lays_84 : decode cX9_lays 84 = .ok (.goto (-77), 3) := by decide +kernel
theorem dX9_lays_87 : decode cX9_lays 87 = .ok (.aload_n 0, 1) := by decide +kernel
theorem dX9_lays_88 : decode cX9_lays 88 = .ok (.getfield 7, 3) := by decide +kernel
theorem dX9_lays_91 : decode cX9_lays 91 = .ok (.iload_n 1, 1) := by decide +kernel
theorem dX9_lays_92 : decode cX9_lays 92 = .ok (.iload 4, 2) := by decide +kernel
theorem dX9_lays_94 : decode cX9_lays 94 = .ok (.invokestatic 104, 3) := by decide +kernel
theorem dX9_lays_97 : decode cX9_lays 97 = .ok (.iload_n 2, 1) := by decide +kernel
theorem dX9_lays_98 : decode cX9_lays 98 = .ok (.iastore, 1) := by decide +kernel
theorem dX9_lays_99 : decode cX9_lays 99 = .ok (.aload_n 0, 1) := by decide +kernel
theorem dX9_lays_100 : decode cX9_lays 100 = .ok (.getfield 7, 3) := by decide +kernel
theorem dX9_lays_103 : decode cX9_lays 103 = .ok (.iload_n 1, 1) := by decide +kernel
theorem dX9_lays_104 : decode cX9_lays 104 = .ok (.iload 4, 2) := by decide +kernel
theorem dX9_lays_106 : decode cX9_lays 106 = .ok (.invokestatic 104, 3) := by decide +kernel
theorem dX9_lays_109 : decode cX9_lays 109 = .ok (.iconst 1, 1) := by decide +kernel
theorem dX9_lays_110 : decode cX9_lays 110 = .ok (.iadd, 1) := by decide +kernel
theorem dX9_lays_111 : decode cX9_lays 111 = .ok (.iload_n 3, 1) := by decide +kernel
theorem dX9_lays_112 : decode cX9_lays 112 = .ok (.iastore, 1) := by decide +kernel
theorem dX9_lays_113 : decode cX9_lays 113 = .ok (.aload_n 0, 1) := by decide +kernel
theorem dX9_lays_114 : decode cX9_lays 114 = .ok (.getfield 7, 3) := by decide +kernel
theorem dX9_lays_117 : decode cX9_lays 117 = .ok (.iconst 2, 1) := by decide +kernel
theorem dX9_lays_118 : decode cX9_lays 118 = .ok (.bipush 25, 2) := by decide +kernel
theorem dX9_lays_120 : decode cX9_lays 120 = .ok (.iload_n 1, 1) := by decide +kernel
theorem dX9_lays_121 : decode cX9_lays 121 = .ok (.imul, 1) := by decide +kernel
theorem dX9_lays_122 : decode cX9_lays 122 = .ok (.iadd, 1) := by decide +kernel
theorem dX9_lays_123 : decode cX9_lays 123 = .ok (.dup2, 1) := by decide +kernel
theorem dX9_lays_124 : decode cX9_lays 124 = .ok (.iaload, 1) := by decide +kernel
theorem dX9_lays_125 : decode cX9_lays 125 = .ok (.iconst 1, 1) := by decide +kernel
theorem dX9_lays_126 : decode cX9_lays 126 = .ok (.iadd, 1) := by decide +kernel
theorem dX9_lays_127 : decode cX9_lays 127 = .ok (.iastore, 1) := by decide +kernel
theorem dX9_lays_128 : decode cX9_lays 128 = .ok (.return_, 1) := by decide +kernel
theorem dX9_drops_0 : decode cX9_drops 0 = .ok (.aload_n 0, 1) := by decide +kernel
theorem dX9_drops_1 : decode cX9_drops 1 = .ok (.iload_n 1, 1) := by decide +kernel
theorem dX9_drops_2 : decode cX9_drops 2 = .ok (.invokevirtual 100, 3) := by decide +kernel
theorem dX9_drops_5 : decode cX9_drops 5 = .ok (.iconst 1, 1) := by decide +kernel
theorem dX9_drops_6 : decode cX9_drops 6 = .ok (.isub, 1) := by decide +kernel
theorem dX9_drops_7 : decode cX9_drops 7 = .ok (.istore_n 3, 1) := by decide +kernel
theorem dX9_drops_8 : decode cX9_drops 8 = .ok (.iload_n 2, 1) := by decide +kernel
theorem dX9_drops_9 : decode cX9_drops 9 = .ok (.istore 4, 2) := by decide +kernel
theorem dX9_drops_11 : decode cX9_drops 11 = .ok (.iload 4, 2) := by decide +kernel
theorem dX9_drops_13 : decode cX9_drops 13 = .ok (.iload_n 3, 1) := by decide +kernel
theorem dX9_drops_14 : decode cX9_drops 14 = .ok (.if_icmp .ge 61, 3) := by decide +kernel
theorem dX9_drops_17 : decode cX9_drops 17 = .ok (.aload_n 0, 1) := by decide +kernel
theorem dX9_drops_18 : decode cX9_drops 18 = .ok (.getfield 7, 3) := by decide +kernel
theorem dX9_drops_21 : decode cX9_drops 21 = .ok (.iload_n 1, 1) := by decide +kernel
theorem dX9_drops_22 : decode cX9_drops 22 = .ok (.iload 4, 2) := by decide +kernel
theorem dX9_drops_24 : decode cX9_drops 24 = .ok (.invokestatic 104, 3) := by decide +kernel
theorem dX9_drops_27 : decode cX9_drops 27 = .ok (.aload_n 0, 1) := by decide +kernel
theorem dX9_drops_28 : decode cX9_drops 28 = .ok (.getfield 7, 3) := by decide +kernel
theorem dX9_drops_31 : decode cX9_drops 31 = .ok (.iload_n 1, 1) := by decide +kernel
theorem dX9_drops_32 : decode cX9_drops 32 = .ok (.iload 4, 2) := by decide +kernel
theorem dX9_drops_34 : decode cX9_drops 34 = .ok (.iconst 1, 1) := by decide +kernel
theorem dX9_drops_35 : decode cX9_drops 35 = .ok (.iadd, 1) := by decide +kernel
theorem dX9_drops_36 : decode cX9_drops 36 = .ok (.invokestatic 104, 3) := by decide +kernel
theorem dX9_drops_39 : decode cX9_drops 39 = .ok (.iaload, 1) := by decide +kernel
theorem dX9_drops_40 : decode cX9_drops 40 = .ok (.iastore, 1) := by decide +kernel
theorem dX9_drops_41 : decode cX9_drops 41 = .ok (.aload_n 0, 1) := by decide +kernel
theorem dX9_drops_42 : decode cX9_drops 42 = .ok (.getfield 7, 3) := by decide +kernel
theorem dX9_drops_45 : decode cX9_drops 45 = .ok (.iload_n 1, 1) := by decide +kernel
theorem dX9_drops_46 : decode cX9_drops 46 = .ok (.iload 4, 2) := by decide +kernel
theorem dX9_drops_48 : decode cX9_drops 48 = .ok (.invokestatic 104, 3) := by decide +kernel
theorem dX9_drops_51 : decode cX9_drops 51 = .ok (.iconst 1, 1) := by decide +kernel
theorem dX9_drops_52 : decode cX9_drops 52 = .ok (.iadd, 1) := by decide +kernel
theorem dX9_drops_53 : decode cX9_drops 53 = .ok (.aload_n 0, 1) := by decide +kernel
theorem dX9_drops_54 : decode cX9_drops 54 = .ok (.getfield 7, 3) := by decide +kernel
theorem dX9_drops_57 : decode cX9_drops 57 = .ok (.iload_n 1, 1) := by decide +kernel
theorem dX9_drops_58 : decode cX9_drops 58 = .ok (.iload 4, 2) := by decide +kernel
theorem dX9_drops_60 : decode cX9_drops 60 = .ok (.iconst 1, 1) := by decide +kernel
theorem dX9_drops_61 : decode cX9_drops 61 = .ok (.iadd, 1) := by decide +kernel
theorem dX9_drops_62 : decode cX9_drops 62 = .ok (.invokestatic 104, 3) := by decide +kernel
theorem dX9_drops_65 : decode cX9_drops 65 = .ok (.iconst 1, 1) := by decide +kernel
theorem dX9_drops_66 : decode cX9_drops 66 = .ok (.iadd, 1) := by decide +kernel
theorem dX9_drops_67 : decode cX9_drops 67 = .ok (.iaload, 1) := by decide +kernel
theorem dX9_drops_68 : decode cX9_drops 68 = .ok (.iastore, 1) := by decide +kernel
theorem dX9_drops_69 : decode cX9_drops 69 = .ok (.iinc 4 1, 3) := by decide +kernel
theorem dX9_drops_72 : decode cX9_drops 72 = .ok (.goto (-61), 3) := by decide +kernel
theorem dX9_drops_75 : decode cX9_drops 75 = .ok (.aload_n 0, 1) := by decide +kernel
theorem dX9_drops_76 : decode cX9_drops 76 = .ok (.getfield 7, 3) := by decide +kernel
theorem dX9_drops_79 : decode cX9_drops 79 = .ok (.iload_n 1, 1) := by decide +kernel
theorem dX9_drops_80 : decode cX9_drops 80 = .ok (.iload_n 3, 1) := by decide +kernel
theorem dX9_drops_81 : decode cX9_drops 81 = .ok (.invokestatic 104, 3) := by decide +kernel
theorem dX9_drops_84 : decode cX9_drops 84 = .ok (.iconst 0, 1) := by decide +kernel
theorem dX9_drops_85 : decode cX9_drops 85 = .ok (.iastore, 1) := by decide +kernel
theorem dX9_drops_86 : decode cX9_drops 86 = .ok (.aload_n 0, 1) := by decide +kernel
theorem dX9_drops_87 : decode cX9_drops 87 = .ok (.getfield 7, 3) := by decide +kernel
theorem dX9_drops_90 : decode cX9_drops 90 = .ok (.iload_n 1, 1) := by decide +kernel
theorem dX9_drops_91 : decode cX9_drops 91 = .ok (.iload_n 3, 1) := by decide +kernel
theorem dX9_drops_92 : decode cX9_drops 92 = .ok (.invokestatic 104, 3) := by decide +kernel
theorem dX9_drops_95 : decode cX9_drops 95 = .ok (.iconst 1, 1) := by decide +kernel
theorem dX9_drops_96 : decode cX9_drops 96 = .ok (.iadd, 1) := by decide +kernel
theorem dX9_drops_97 : decode cX9_drops 97 = .ok (.iconst 0, 1) := by decide +kernel
theorem dX9_drops_98 : decode cX9_drops 98 = .ok (.iastore, 1) := by decide +kernel
theorem dX9_drops_99 : decode cX9_drops 99 = .ok (.aload_n 0, 1) := by decide +kernel
theorem dX9_drops_100 : decode cX9_drops 100 = .ok (.getfield 7, 3) := by decide +kernel
theorem dX9_drops_103 : decode cX9_drops 103 = .ok (.iconst 2, 1) := by decide +kernel
theorem dX9_drops_104 : decode cX9_drops 104 = .ok (.bipush 25, 2) := by decide +kernel
theorem dX9_drops_106 : decode cX9_drops 106 = .ok (.iload_n 1, 1) := by decide +kernel
theorem dX9_drops_107 : decode cX9_drops 107 = .ok (.imul, 1) := by decide +kernel
theorem dX9_drops_108 : decode cX9_drops 108 = .ok (.iadd, 1) := by decide +kernel
theorem dX9_drops_109 : decode cX9_drops 109 = .ok (.dup2, 1) := by decide +kernel
theorem dX9_drops_110 : decode cX9_drops 110 = .ok (.iaload, 1) := by decide +kernel
theorem dX9_drops_111 : decode cX9_drops 111 = .ok (.iconst 1, 1) := by decide +kernel
theorem dX9_drops_112 : decode cX9_drops 112 = .ok (.isub, 1) := by decide +kernel
theorem dX9_drops_113 : decode cX9_drops 113 = .ok (.iastore, 1) := by decide +kernel
theorem dX9_drops_114 : decode cX9_drops 114 = .ok (.return_, 1) := by decide +kernel
theorem dX9_allRows_0 : decode cX9_allRows 0 = .ok (.iconst 0, 1) := by decide +kernel
theorem dX9_allRows_1 : decode cX9_allRows 1 = .ok (.istore_n 1, 1) := by decide +kernel
theorem dX9_allRows_2 : decode cX9_allRows 2 = .ok (.iconst 0, 1) := by decide +kernel
theorem dX9_allRows_3 : decode cX9_allRows 3 = .ok (.istore_n 2, 1) := by decide +kernel
theorem dX9_allRows_4 : decode cX9_allRows 4 = .ok (.iload_n 2, 1) := by decide +kernel
theorem dX9_allRows_5 : decode cX9_allRows 5 = .ok (.iconst 4, 1) := by decide +kernel
theorem dX9_allRows_6 : decode cX9_allRows 6 = .ok (.if_icmp .ge 17, 3) := by decide +kernel
theorem dX9_allRows_9 : decode cX9_allRows 9 = .ok (.iload_n 1, 1) := by decide +kernel
theorem dX9_allRows_10 : decode cX9_allRows 10 = .ok (.aload_n 0, 1) := by decide +kernel
theorem dX9_allRows_11 : decode cX9_allRows 11 = .ok (.iload_n 2, 1) := by decide +kernel
theorem dX9_allRows_12 : decode cX9_allRows 12 = .ok (.invokevirtual 100, 3) := by decide +kernel
theorem dX9_allRows_15 : decode cX9_allRows 15 = .ok (.iadd, 1) := by decide +kernel
theorem dX9_allRows_16 : decode cX9_allRows 16 = .ok (.istore_n 1, 1) := by decide +kernel
theorem dX9_allRows_17 : decode cX9_allRows 17 = .ok (.iinc 2 1, 3) := by decide +kernel
theorem dX9_allRows_20 : decode cX9_allRows 20 = .ok (.goto (-16), 3) := by decide +kernel
theorem dX9_allRows_23 : decode cX9_allRows 23 = .ok (.iload_n 1, 1) := by decide +kernel
theorem dX9_allRows_24 : decode cX9_allRows 24 = .ok (.ireturn, 1) := by decide +kernel
theorem dX9_fails_0 : decode cX9_fails 0 = .ok (.aload_n 0, 1) := by decide +kernel
theorem dX9_fails_1 : decode cX9_fails 1 = .ok (.iload_n 1, 1) := by decide +kernel
theorem dX9_fails_2 : decode cX9_fails 2 = .ok (.putfield 114, 3) := by decide +kernel
theorem dX9_fails_5 : decode cX9_fails 5 = .ok (.aload_n 0, 1) := by decide +kernel
theorem dX9_fails_6 : decode cX9_fails 6 = .ok (.iload_n 2, 1) := by decide +kernel
theorem dX9_fails_7 : decode cX9_fails 7 = .ok (.putfield 117, 3) := by decide +kernel
theorem dX9_fails_10 : decode cX9_fails 10 = .ok (.aload_n 0, 1) := by decide +kernel
theorem dX9_fails_11 : decode cX9_fails 11 = .ok (.iload_n 3, 1) := by decide +kernel
theorem dX9_fails_12 : decode cX9_fails 12 = .ok (.putfield 120, 3) := by decide +kernel
theorem dX9_fails_15 : decode cX9_fails 15 = .ok (.aload_n 0, 1) := by decide +kernel
theorem dX9_fails_16 : decode cX9_fails 16 = .ok (.iload 4, 2) := by decide +kernel
theorem dX9_fails_18 : decode cX9_fails 18 = .ok (.putfield 123, 3) := by decide +kernel
theorem dX9_fails_21 : decode cX9_fails 21 = .ok (.iconst 0, 1) := by decide +kernel
theorem dX9_fails_22 : decode cX9_fails 22 = .ok (.istore 5, 2) := by decide +kernel
theorem dX9_fails_24 : decode cX9_fails 24 = .ok (.iload 5, 2) := by decide +kernel
theorem dX9_fails_26 : decode cX9_fails 26 = .ok (.iload 4, 2) := by decide +kernel
theorem dX9_fails_28 : decode cX9_fails 28 = .ok (.if_icmp .ge 23, 3) := by decide +kernel
theorem dX9_fails_31 : decode cX9_fails 31 = .ok (.aload_n 0, 1) := by decide +kernel
theorem dX9_fails_32 : decode cX9_fails 32 = .ok (.getfield 29, 3) := by decide +kernel
theorem dX9_fails_35 : decode cX9_fails 35 = .ok (.iload 5, 2) := by decide +kernel
theorem dX9_fails_37 : decode cX9_fails 37 = .ok (.aload_n 0, 1) := by decide +kernel
theorem dX9_fails_38 : decode cX9_fails 38 = .ok (.getfield 36, 3) := by decide +kernel
theorem dX9_fails_41 : decode cX9_fails 41 = .ok (.iload 5, 2) := by decide +kernel
theorem dX9_fails_43 : decode cX9_fails 43 = .ok (.iaload, 1) := by decide +kernel
theorem dX9_fails_44 : decode cX9_fails 44 = .ok (.iastore, 1) := by decide +kernel
theorem dX9_fails_45 : decode cX9_fails 45 = .ok (.iinc 5 1, 3) := by decide +kernel
theorem dX9_fails_48 : decode cX9_fails 48 = .ok (.goto (-24), 3) := by decide +kernel
theorem dX9_fails_51 : decode cX9_fails 51 = .ok (.return_, 1) := by decide +kernel
theorem dX9_begins_0 : decode cX9_begins 0 = .ok (.iload 5, 2) := by decide +kernel
theorem dX9_begins_2 : decode cX9_begins 2 = .ok (.aload_n 0, 1) := by decide +kernel
theorem dX9_begins_3 : decode cX9_begins 3 = .ok (.getfield 7, 3) := by decide +kernel
theorem dX9_begins_6 : decode cX9_begins 6 = .ok (.iconst 0, 1) := by decide +kernel
theorem dX9_begins_7 : decode cX9_begins 7 = .ok (.iaload, 1) := by decide +kernel
theorem dX9_begins_8 : decode cX9_begins 8 = .ok (.if_icmp .le 13, 3) := by decide +kernel
theorem dX9_begins_11 : decode cX9_begins 11 = .ok (.aload_n 0, 1) := by decide +kernel
theorem dX9_begins_12 : decode cX9_begins 12 = .ok (.iconst 1, 1) := by decide +kernel
theorem dX9_begins_13 : decode cX9_begins 13 = .ok (.iload_n 2, 1) := by decide +kernel
theorem dX9_begins_14 : decode cX9_begins 14 = .ok (.iload_n 3, 1) := by decide +kernel
theorem dX9_begins_15 : decode cX9_begins 15 = .ok (.iload 5, 2) := by decide +kernel
theorem dX9_begins_17 : decode cX9_begins 17 = .ok (.invokevirtual 126, 3) := by decide +kernel
theorem dX9_begins_20 : decode cX9_begins 20 = .ok (.return_, 1) := by decide +kernel
theorem dX9_begins_21 : decode cX9_begins 21 = .ok (.aload_n 0, 1) := by decide +kernel
theorem dX9_begins_22 : decode cX9_begins 22 = .ok (.getfield 130, 3) := by decide +kernel
theorem dX9_begins_25 : decode cX9_begins 25 = .ok (.bipush 100, 2) := by decide +kernel
theorem dX9_begins_27 : decode cX9_begins 27 = .ok (.if_icmp .ne 13, 3) := by decide +kernel
theorem dX9_begins_30 : decode cX9_begins 30 = .ok (.aload_n 0, 1) := by decide +kernel
theorem dX9_begins_31 : decode cX9_begins 31 = .ok (.iconst 2, 1) := by decide +kernel
theorem dX9_begins_32 : decode cX9_begins 32 = .ok (.iload_n 2, 1) := by decide +kernel
theorem dX9_begins_33 : decode cX9_begins 33 = .ok (.iload_n 3, 1) := by decide +kernel
theorem dX9_begins_34 : decode cX9_begins 34 = .ok (.iload 5, 2) := by decide +kernel
theorem dX9_begins_36 : decode cX9_begins 36 = .ok (.invokevirtual 126, 3) := by decide +kernel
theorem dX9_begins_39 : decode cX9_begins 39 = .ok (.return_, 1) := by decide +kernel
theorem dX9_begins_40 : decode cX9_begins 40 = .ok (.aload_n 0, 1) := by decide +kernel
theorem dX9_begins_41 : decode cX9_begins 41 = .ok (.dup, 1) := by decide +kernel
theorem dX9_begins_42 : decode cX9_begins 42 = .ok (.getfield 130, 3) := by decide +kernel
theorem dX9_begins_45 : decode cX9_begins 45 = .ok (.iconst 1, 1) := by decide +kernel
theorem dX9_begins_46 : decode cX9_begins 46 = .ok (.iadd, 1) := by decide +kernel
theorem dX9_begins_47 : decode cX9_begins 47 = .ok (.putfield 130, 3) := by decide +kernel
theorem dX9_begins_50 : decode cX9_begins 50 = .ok (.aload_n 0, 1) := by decide +kernel
theorem dX9_begins_51 : decode cX9_begins 51 = .ok (.iload 5, 2) := by decide +kernel
theorem dX9_begins_53 : decode cX9_begins 53 = .ok (.aload_n 0, 1) := by decide +kernel
theorem dX9_begins_54 : decode cX9_begins 54 = .ok (.getfield 133, 3) := by decide +kernel
theorem dX9_begins_57 : decode cX9_begins 57 = .ok (.if_icmp .le 8, 3) := by decide +kernel
theorem dX9_begins_60 : decode cX9_begins 60 = .ok (.iload 5, 2) := by decide +kernel
theorem dX9_begins_62 : decode cX9_begins 62 = .ok (.goto 7, 3) := by decide +kernel
theorem dX9_begins_65 : decode cX9_begins 65 = .ok (.aload_n 0, 1) := by decide +kernel
theorem dX9_begins_66 : decode cX9_begins 66 = .ok (.getfield 133, 3) := by decide +kernel
theorem dX9_begins_69 : decode cX9_begins 69 = .ok (.putfield 133, 3) := by decide +kernel
theorem dX9_begins_72 : decode cX9_begins 72 = .ok (.aload_n 0, 1) := by decide +kernel
theorem dX9_begins_73 : decode cX9_begins 73 = .ok (.getfield 60, 3) := by decide +kernel
theorem dX9_begins_76 : decode cX9_begins 76 = .ok (.iload_n 2, 1) := by decide +kernel
theorem dX9_begins_77 : decode cX9_begins 77 = .ok (.baload, 1) := by decide +kernel
theorem dX9_begins_78 : decode cX9_begins 78 = .ok (.ifCond .eq 13, 3) := by decide +kernel
theorem dX9_begins_81 : decode cX9_begins 81 = .ok (.aload_n 0, 1) := by decide +kernel
theorem dX9_begins_82 : decode cX9_begins 82 = .ok (.iconst 3, 1) := by decide +kernel
theorem dX9_begins_83 : decode cX9_begins 83 = .ok (.iload_n 2, 1) := by decide +kernel
theorem dX9_begins_84 : decode cX9_begins 84 = .ok (.iload_n 3, 1) := by decide +kernel
theorem dX9_begins_85 : decode cX9_begins 85 = .ok (.iload 5, 2) := by decide +kernel
theorem dX9_begins_87 : decode cX9_begins 87 = .ok (.invokevirtual 126, 3) := by decide +kernel
theorem dX9_begins_90 : decode cX9_begins 90 = .ok (.return_, 1) := by decide +kernel
theorem dX9_begins_91 : decode cX9_begins 91 = .ok (.aload_n 0, 1) := by decide +kernel
theorem dX9_begins_92 : decode cX9_begins 92 = .ok (.iload_n 1, 1) := by decide +kernel
theorem dX9_begins_93 : decode cX9_begins 93 = .ok (.iload_n 2, 1) := by decide +kernel
theorem dX9_begins_94 : decode cX9_begins 94 = .ok (.iload_n 3, 1) := by decide +kernel
theorem dX9_begins_95 : decode cX9_begins 95 = .ok (.iload 4, 2) := by decide +kernel
theorem dX9_begins_97 : decode cX9_begins 97 = .ok (.invokevirtual 136, 3) := by decide +kernel
theorem dX9_begins_100 : decode cX9_begins 100 = .ok (.ifCond .ne 41, 3) := by decide +kernel
theorem dX9_begins_103 : decode cX9_begins 103 = .ok (.iload 5, 2) := by decide +kernel
theorem dX9_begins_105 : decode cX9_begins 105 = .ok (.ifCond .le 26, 3) := by decide +kernel
theorem dX9_begins_108 : decode cX9_begins 108 = .ok (.aload_n 0, 1) := by decide +kernel
theorem dX9_begins_109 : decode cX9_begins 109 = .ok (.getfield 7, 3) := by decide +kernel
theorem dX9_begins_112 : decode cX9_begins 112 = .ok (.iconst 1, 1) := by decide +kernel
theorem dX9_begins_113 : decode cX9_begins 113 = .ok (.iaload, 1) := by decide +kernel
theorem dX9_begins_114 : decode cX9_begins 114 = .ok (.iconst 1, 1) := by decide +kernel
theorem dX9_begins_115 : decode cX9_begins 115 = .ok (.if_icmp .ne 16, 3) := by decide +kernel
theorem dX9_begins_118 : decode cX9_begins 118 = .ok (.aload_n 0, 1) := by decide +kernel
theorem dX9_begins_119 : decode cX9_begins 119 = .ok (.dup, 1) := by decide +kernel
theorem dX9_begins_120 : decode cX9_begins 120 = .ok (.getfield 140, 3) := by decide +kernel
theorem dX9_begins_123 : decode cX9_begins 123 = .ok (.iconst 1, 1) := by decide +kernel
theorem dX9_begins_124 : decode cX9_begins 124 = .ok (.iadd, 1) := by decide +kernel
theorem dX9_begins_125 : decode cX9_begins 125 = .ok (.putfield 140, 3) := by decide +kernel
theorem dX9_begins_128 : decode cX9_begins 128 = .ok (.goto 12, 3) := by decide +kernel
theorem dX9_begins_131 : decode cX9_begins 131 = .ok (.aload_n 0, 1) := by decide +kernel
theorem dX9_begins_132 : decode cX9_begins 132 = .ok (.iconst 4, 1) := by decide +kernel
theorem dX9_begins_133 : decode cX9_begins 133 = .ok (.iload_n 2, 1) := by decide +kernel
theorem dX9_begins_134 : decode cX9_begins 134 = .ok (.iload_n 3, 1) := by decide +kernel
theorem dX9_begins_135 : decode cX9_begins 135 = .ok (.iload 5, 2) := by decide +kernel
theorem dX9_begins_137 : decode cX9_begins 137 = .ok (.invokevirtual 126, 3) := by decide +kernel
theorem dX9_begins_140 : decode cX9_begins 140 = .ok (.return_, 1) := by decide +kernel
theorem dX9_begins_141 : decode cX9_begins 141 = .ok (.aload_n 0, 1) := by decide +kernel
theorem dX9_begins_142 : decode cX9_begins 142 = .ok (.getfield 60, 3) := by decide +kernel
theorem dX9_begins_145 : decode cX9_begins 145 = .ok (.iload_n 2, 1) := by decide +kernel
theorem dX9_begins_146 : decode cX9_begins 146 = .ok (.iconst 1, 1) := by decide +kernel
theorem dX9_begins_147 : decode cX9_begins 147 = .ok (.bastore, 1) := by decide +kernel
theorem dX9_begins_148 : decode cX9_begins 148 = .ok (.aload_n 0, 1) := by decide +kernel
theorem dX9_begins_149 : decode cX9_begins 149 = .ok (.iload 5, 2) := by decide +kernel
theorem dX9_begins_151 : decode cX9_begins 151 = .ok (.putfield 143, 3) := by decide +kernel
theorem dX9_begins_154 : decode cX9_begins 154 = .ok (.aload_n 0, 1) := by decide +kernel
theorem dX9_begins_155 : decode cX9_begins 155 = .ok (.getfield 39, 3) := by decide +kernel
theorem dX9_begins_158 : decode cX9_begins 158 = .ok (.iload 5, 2) := by decide +kernel
theorem dX9_begins_160 : decode cX9_begins 160 = .ok (.iload_n 1, 1) := by decide +kernel
theorem dX9_begins_161 : decode cX9_begins 161 = .ok (.iastore, 1) := by decide +kernel
theorem dX9_begins_162 : decode cX9_begins 162 = .ok (.aload_n 0, 1) := by decide +kernel
theorem dX9_begins_163 : decode cX9_begins 163 = .ok (.getfield 42, 3) := by decide +kernel
theorem dX9_begins_166 : decode cX9_begins 166 = .ok (.iload 5, 2) := by decide +kernel
theorem dX9_begins_168 : decode cX9_begins 168 = .ok (.iload_n 2, 1) := by decide +kernel
theorem dX9_begins_169 : decode cX9_begins 169 = .ok (.iastore, 1) := by decide +kernel
theorem dX9_begins_170 : decode cX9_begins 170 = .ok (.aload_n 0, 1) := by decide +kernel
theorem dX9_begins_171 : decode cX9_begins 171 = .ok (.getfield 45, 3) := by decide +kernel
theorem dX9_begins_174 : decode cX9_begins 174 = .ok (.iload 5, 2) := by decide +kernel
theorem dX9_begins_176 : decode cX9_begins 176 = .ok (.iload_n 3, 1) := by decide +kernel
theorem dX9_begins_177 : decode cX9_begins 177 = .ok (.iastore, 1) := by decide +kernel
theorem dX9_begins_178 : decode cX9_begins 178 = .ok (.aload_n 0, 1) := by decide +kernel
theorem dX9_begins_179 : decode cX9_begins 179 = .ok (.getfield 48, 3) := by decide +kernel
theorem dX9_begins_182 : decode cX9_begins 182 = .ok (.iload 5, 2) := by decide +kernel
theorem dX9_begins_184 : decode cX9_begins 184 = .ok (.iload 4, 2) := by decide +kernel
theorem dX9_begins_186 : decode cX9_begins 186 = .ok (.iastore, 1) := by decide +kernel
theorem dX9_begins_187 : decode cX9_begins 187 = .ok (.aload_n 0, 1) := by decide +kernel
theorem dX9_begins_188 : decode cX9_begins 188 = .ok (.getfield 51, 3) := by decide +kernel
theorem dX9_begins_191 : decode cX9_begins 191 = .ok (.iload 5, 2) := by decide +kernel
theorem dX9_begins_193 : decode cX9_begins 193 = .ok (.iload_n 1, 1) := by decide +kernel
theorem dX9_begins_194 : decode cX9_begins 194 = .ok (.ifCond .ne 8, 3) := by decide +kernel
theorem dX9_begins_197 : decode cX9_begins 197 = .ok (.iload 4, 2) := by decide +kernel
theorem dX9_begins_199 : decode cX9_begins 199 = .ok (.goto 21, 3) := by decide +kernel
theorem dX9_begins_202 : decode cX9_begins 202 = .ok (.aload_n 0, 1) := by decide +kernel
theorem dX9_begins_203 : decode cX9_begins 203 = .ok (.iload_n 2, 1) := by decide +kernel
theorem dX9_begins_204 : decode cX9_begins 204 = .ok (.iload_n 3, 1) := by decide +kernel
theorem dX9_begins_205 : decode cX9_begins 205 = .ok (.invokevirtual 111, 3) := by decide +kernel
theorem dX9_begins_208 : decode cX9_begins 208 = .ok (.iload_n 1, 1) := by decide +kernel
theorem dX9_begins_209 : decode cX9_begins 209 = .ok (.iconst 1, 1) := by decide +kernel
theorem dX9_begins_210 : decode cX9_begins 210 = .ok (.if_icmp .ne 8, 3) := by decide +kernel
theorem dX9_begins_213 : decode cX9_begins 213 = .ok (.iload 4, 2) := by decide +kernel
theorem dX9_begins_215 : decode cX9_begins 215 = .ok (.goto 4, 3) := by decide +kernel
theorem dX9_begins_218 : decode cX9_begins 218 = .ok (.iconst 0, 1) := by decide +kernel
theorem dX9_begins_219 : decode cX9_begins 219 = .ok (.iadd, 1) := by decide +kernel
theorem dX9_begins_220 : decode cX9_begins 220 = .ok (.iastore, 1) := by decide +kernel
theorem dX9_begins_221 : decode cX9_begins 221 = .ok (.aload_n 0, 1) := by decide +kernel
theorem dX9_begins_222 : decode cX9_begins 222 = .ok (.getfield 54, 3) := by decide +kernel
theorem dX9_begins_225 : decode cX9_begins 225 = .ok (.iload 5, 2) := by decide +kernel
theorem dX9_begins_227 : decode cX9_begins 227 = .ok (.iconst 0, 1) := by decide +kernel
theorem dX9_begins_228 : decode cX9_begins 228 = .ok (.iastore, 1) := by decide +kernel
theorem dX9_begins_229 : decode cX9_begins 229 = .ok (.aload_n 0, 1) := by decide +kernel
theorem dX9_begins_230 : decode cX9_begins 230 = .ok (.getfield 57, 3) := by decide +kernel
theorem dX9_begins_233 : decode cX9_begins 233 = .ok (.iload 5, 2) := by decide +kernel
theorem dX9_begins_235 : decode cX9_begins 235 = .ok (.iconst 0, 1) := by decide +kernel
theorem dX9_begins_236 : decode cX9_begins 236 = .ok (.iastore, 1) := by decide +kernel
theorem dX9_begins_237 : decode cX9_begins 237 = .ok (.return_, 1) := by decide +kernel
theorem dX9_isSetOff_0 : decode cX9_isSetOff 0 = .ok (.iload_n 1, 1) := by decide +kernel
theorem dX9_isSetOff_1 : decode cX9_isSetOff 1 = .ok (.aload_n 0, 1) := by decide +kernel
theorem dX9_isSetOff_2 : decode cX9_isSetOff 2 = .ok (.getfield 32, 3) := by decide +kernel
theorem dX9_isSetOff_5 : decode cX9_isSetOff 5 = .ok (.if_icmp .eq 37, 3) := by decide +kernel
theorem dX9_isSetOff_8 : decode cX9_isSetOff 8 = .ok (.aload_n 0, 1) := by decide +kernel
theorem dX9_isSetOff_9 : decode cX9_isSetOff 9 = .ok (.iload_n 1, 1) := by decide +kernel
theorem dX9_isSetOff_10 : decode cX9_isSetOff 10 = .ok (.iconst 0, 1) := by decide +kernel
theorem dX9_isSetOff_11 : decode cX9_isSetOff 11 = .ok (.invokevirtual 146, 3) := by decide +kernel
theorem dX9_isSetOff_14 : decode cX9_isSetOff 14 = .ok (.aload_n 0, 1) := by decide +kernel
theorem dX9_isSetOff_15 : decode cX9_isSetOff 15 = .ok (.getfield 42, 3) := by decide +kernel
theorem dX9_isSetOff_18 : decode cX9_isSetOff 18 = .ok (.iload_n 2, 1) := by decide +kernel
theorem dX9_isSetOff_19 : decode cX9_isSetOff 19 = .ok (.iaload, 1) := by decide +kernel
theorem dX9_isSetOff_20 : decode cX9_isSetOff 20 = .ok (.if_icmp .ne 22, 3) := by decide +kernel
theorem dX9_isSetOff_23 : decode cX9_isSetOff 23 = .ok (.aload_n 0, 1) := by decide +kernel
theorem dX9_isSetOff_24 : decode cX9_isSetOff 24 = .ok (.iload_n 1, 1) := by decide +kernel
theorem dX9_isSetOff_25 : decode cX9_isSetOff 25 = .ok (.iconst 1, 1) := by decide +kernel
theorem dX9_isSetOff_26 : decode cX9_isSetOff 26 = .ok (.invokevirtual 146, 3) := by decide +kernel
theorem dX9_isSetOff_29 : decode cX9_isSetOff 29 = .ok (.aload_n 0, 1) := by decide +kernel
theorem dX9_isSetOff_30 : decode cX9_isSetOff 30 = .ok (.getfield 39, 3) := by decide +kernel
theorem dX9_isSetOff_33 : decode cX9_isSetOff 33 = .ok (.iload_n 2, 1) := by decide +kernel
theorem dX9_isSetOff_34 : decode cX9_isSetOff 34 = .ok (.iaload, 1) := by decide +kernel
theorem dX9_isSetOff_35 : decode cX9_isSetOff 35 = .ok (.if_icmp .ne 7, 3) := by decide +kernel
theorem dX9_isSetOff_38 : decode cX9_isSetOff 38 = .ok (.iconst 1, 1) := by decide +kernel
theorem dX9_isSetOff_39 : decode cX9_isSetOff 39 = .ok (.goto 4, 3) := by decide +kernel
theorem dX9_isSetOff_42 : decode cX9_isSetOff 42 = .ok (.iconst 0, 1) := by decide +kernel
theorem dX9_isSetOff_43 : decode cX9_isSetOff 43 = .ok (.istore 4, 2) := by decide +kernel
theorem dX9_isSetOff_45 : decode cX9_isSetOff 45 = .ok (.iload 4, 2) := by decide +kernel
theorem dX9_isSetOff_47 : decode cX9_isSetOff 47 = .ok (.ifCond .eq 32, 3) := by decide +kernel
theorem dX9_isSetOff_50 : decode cX9_isSetOff 50 = .ok (.aload_n 0, 1) := by decide +kernel
theorem dX9_isSetOff_51 : decode cX9_isSetOff 51 = .ok (.iload_n 1, 1) := by decide +kernel
theorem dX9_isSetOff_52 : decode cX9_isSetOff 52 = .ok (.iconst 2, 1) := by decide +kernel
theorem dX9_isSetOff_53 : decode cX9_isSetOff 53 = .ok (.invokevirtual 146, 3) := by decide +kernel
theorem dX9_isSetOff_56 : decode cX9_isSetOff 56 = .ok (.iload_n 3, 1) := by decide +kernel
theorem dX9_isSetOff_57 : decode cX9_isSetOff 57 = .ok (.if_icmp .ne 22, 3) := by decide +kernel
theorem dX9_isSetOff_60 : decode cX9_isSetOff 60 = .ok (.aload_n 0, 1) := by decide +kernel
theorem dX9_isSetOff_61 : decode cX9_isSetOff 61 = .ok (.getfield 51, 3) := by decide +kernel
theorem dX9_isSetOff_64 : decode cX9_isSetOff 64 = .ok (.iload_n 2, 1) := by decide +kernel
theorem dX9_isSetOff_65 : decode cX9_isSetOff 65 = .ok (.iaload, 1) := by decide +kernel
theorem dX9_isSetOff_66 : decode cX9_isSetOff 66 = .ok (.aload_n 0, 1) := by decide +kernel
theorem dX9_isSetOff_67 : decode cX9_isSetOff 67 = .ok (.iload_n 1, 1) := by decide +kernel
theorem dX9_isSetOff_68 : decode cX9_isSetOff 68 = .ok (.iconst 3, 1) := by decide +kernel
theorem dX9_isSetOff_69 : decode cX9_isSetOff 69 = .ok (.invokevirtual 146, 3) := by decide +kernel
theorem dX9_isSetOff_72 : decode cX9_isSetOff 72 = .ok (.if_icmp .lt 7, 3) := by decide +kernel
theorem dX9_isSetOff_75 : decode cX9_isSetOff 75 = .ok (.iconst 1, 1) := by decide +kernel
theorem dX9_isSetOff_76 : decode cX9_isSetOff 76 = .ok (.goto 4, 3) := by decide +kernel
theorem dX9_isSetOff_79 : decode cX9_isSetOff 79 = .ok (.iconst 0, 1) := by decide +kernel
theorem dX9_isSetOff_80 : decode cX9_isSetOff 80 = .ok (.ireturn, 1) := by decide +kernel
theorem dX9_does_0 : decode cX9_does 0 = .ok (.aload_n 0, 1) := by decide +kernel
theorem dX9_does_1 : decode cX9_does 1 = .ok (.getfield 36, 3) := by decide +kernel
theorem dX9_does_4 : decode cX9_does 4 = .ok (.iload 4, 2) := by decide +kernel
theorem dX9_does_6 : decode cX9_does 6 = .ok (.iload_n 1, 1) := by decide +kernel
theorem dX9_does_7 : decode cX9_does 7 = .ok (.iastore, 1) := by decide +kernel
theorem dX9_does_8 : decode cX9_does 8 = .ok (.aload_n 0, 1) := by decide +kernel
theorem dX9_does_9 : decode cX9_does 9 = .ok (.iload_n 1, 1) := by decide +kernel
theorem dX9_does_10 : decode cX9_does 10 = .ok (.iconst 4, 1) := by decide +kernel
theorem dX9_does_11 : decode cX9_does 11 = .ok (.invokevirtual 146, 3) := by decide +kernel
theorem dX9_does_14 : decode cX9_does 14 = .ok (.ifCond .ne 17, 3) := by decide +kernel
theorem dX9_does_17 : decode cX9_does 17 = .ok (.aload_n 0, 1) := by decide +kernel
theorem dX9_does_18 : decode cX9_does 18 = .ok (.iconst 5, 1) := by decide +kernel
theorem dX9_does_19 : decode cX9_does 19 = .ok (.iload_n 2, 1) := by decide +kernel
theorem dX9_does_20 : decode cX9_does 20 = .ok (.iload_n 3, 1) := by decide +kernel
theorem dX9_does_21 : decode cX9_does 21 = .ok (.iload 4, 2) := by decide +kernel
theorem dX9_does_23 : decode cX9_does 23 = .ok (.iconst 1, 1) := by decide +kernel
theorem dX9_does_24 : decode cX9_does 24 = .ok (.iadd, 1) := by decide +kernel
theorem dX9_does_25 : decode cX9_does 25 = .ok (.invokevirtual 126, 3) := by decide +kernel
theorem dX9_does_28 : decode cX9_does 28 = .ok (.goto 44, 3) := by decide +kernel
theorem dX9_does_31 : decode cX9_does 31 = .ok (.aload_n 0, 1) := by decide +kernel
theorem dX9_does_32 : decode cX9_does 32 = .ok (.aload_n 0, 1) := by decide +kernel
theorem dX9_does_33 : decode cX9_does 33 = .ok (.iload_n 1, 1) := by decide +kernel
theorem dX9_does_34 : decode cX9_does 34 = .ok (.iconst 4, 1) := by decide +kernel
theorem dX9_does_35 : decode cX9_does 35 = .ok (.invokevirtual 146, 3) := by decide +kernel
theorem dX9_does_38 : decode cX9_does 38 = .ok (.iconst 1, 1) := by decide +kernel
theorem dX9_does_39 : decode cX9_does 39 = .ok (.isub, 1) := by decide +kernel
theorem dX9_does_40 : decode cX9_does 40 = .ok (.aload_n 0, 1) := by decide +kernel
theorem dX9_does_41 : decode cX9_does 41 = .ok (.iload_n 1, 1) := by decide +kernel
theorem dX9_does_42 : decode cX9_does 42 = .ok (.iconst 5, 1) := by decide +kernel
theorem dX9_does_43 : decode cX9_does 43 = .ok (.invokevirtual 146, 3) := by decide +kernel
theorem dX9_does_46 : decode cX9_does 46 = .ok (.iload_n 3, 1) := by decide +kernel
theorem dX9_does_47 : decode cX9_does 47 = .ok (.aload_n 0, 1) := by decide +kernel
theorem dX9_does_48 : decode cX9_does 48 = .ok (.iload_n 1, 1) := by decide +kernel
theorem dX9_does_49 : decode cX9_does 49 = .ok (.bipush 6, 2) := by decide +kernel
theorem dX9_does_51 : decode cX9_does 51 = .ok (.invokevirtual 146, 3) := by decide +kernel
theorem dX9_does_54 : decode cX9_does 54 = .ok (.iadd, 1) := by decide +kernel
theorem dX9_does_55 : decode cX9_does 55 = .ok (.bipush 100, 2) := by decide +kernel
theorem dX9_does_57 : decode cX9_does 57 = .ok (.irem, 1) := by decide +kernel
theorem dX9_does_58 : decode cX9_does 58 = .ok (.aload_n 0, 1) := by decide +kernel
theorem dX9_does_59 : decode cX9_does 59 = .ok (.iload_n 1, 1) := by decide +kernel
theorem dX9_does_60 : decode cX9_does 60 = .ok (.bipush 7, 2) := by decide +kernel
theorem dX9_does_62 : decode cX9_does 62 = .ok (.invokevirtual 146, 3) := by decide +kernel
theorem dX9_does_65 : decode cX9_does 65 = .ok (.iload 4, 2) := by decide +kernel
theorem dX9_does_67 : decode cX9_does 67 = .ok (.iconst 1, 1) := by decide +kernel
theorem dX9_does_68 : decode cX9_does 68 = .ok (.iadd, 1) := by decide +kernel
theorem dX9_does_69 : decode cX9_does 69 = .ok (.invokevirtual 149, 3) := by decide +kernel
theorem dX9_does_72 : decode cX9_does 72 = .ok (.return_, 1) := by decide +kernel
theorem dX9_isDone_0 : decode cX9_isDone 0 = .ok (.aload_n 0, 1) := by decide +kernel
theorem dX9_isDone_1 : decode cX9_isDone 1 = .ok (.getfield 42, 3) := by decide +kernel
theorem dX9_isDone_4 : decode cX9_isDone 4 = .ok (.iload_n 1, 1) := by decide +kernel
theorem dX9_isDone_5 : decode cX9_isDone 5 = .ok (.iaload, 1) := by decide +kernel
theorem dX9_isDone_6 : decode cX9_isDone 6 = .ok (.istore_n 2, 1) := by decide +kernel
theorem dX9_isDone_7 : decode cX9_isDone 7 = .ok (.aload_n 0, 1) := by decide +kernel
theorem dX9_isDone_8 : decode cX9_isDone 8 = .ok (.getfield 45, 3) := by decide +kernel
theorem dX9_isDone_11 : decode cX9_isDone 11 = .ok (.iload_n 1, 1) := by decide +kernel
theorem dX9_isDone_12 : decode cX9_isDone 12 = .ok (.iaload, 1) := by decide +kernel
theorem dX9_isDone_13 : decode cX9_isDone 13 = .ok (.istore_n 3, 1) := by decide +kernel
theorem dX9_isDone_14 : decode cX9_isDone 14 = .ok (.aload_n 0, 1) := by decide +kernel
theorem dX9_isDone_15 : decode cX9_isDone 15 = .ok (.getfield 39, 3) := by decide +kernel
theorem dX9_isDone_18 : decode cX9_isDone 18 = .ok (.iload_n 1, 1) := by decide +kernel
theorem dX9_isDone_19 : decode cX9_isDone 19 = .ok (.iaload, 1) := by decide +kernel
theorem dX9_isDone_20 : decode cX9_isDone 20 = .ok (.ifCond .ne 18, 3) := by decide +kernel
theorem dX9_isDone_23 : decode cX9_isDone 23 = .ok (.aload_n 0, 1) := by decide +kernel
theorem dX9_isDone_24 : decode cX9_isDone 24 = .ok (.iload_n 2, 1) := by decide +kernel
theorem dX9_isDone_25 : decode cX9_isDone 25 = .ok (.iload_n 3, 1) := by decide +kernel
theorem dX9_isDone_26 : decode cX9_isDone 26 = .ok (.aload_n 0, 1) := by decide +kernel
theorem dX9_isDone_27 : decode cX9_isDone 27 = .ok (.getfield 48, 3) := by decide +kernel
theorem dX9_isDone_30 : decode cX9_isDone 30 = .ok (.iload_n 1, 1) := by decide +kernel
theorem dX9_isDone_31 : decode cX9_isDone 31 = .ok (.iaload, 1) := by decide +kernel
theorem dX9_isDone_32 : decode cX9_isDone 32 = .ok (.invokevirtual 153, 3) := by decide +kernel
theorem dX9_isDone_35 : decode cX9_isDone 35 = .ok (.goto 53, 3) := by decide +kernel
theorem dX9_isDone_38 : decode cX9_isDone 38 = .ok (.aload_n 0, 1) := by decide +kernel
theorem dX9_isDone_39 : decode cX9_isDone 39 = .ok (.getfield 39, 3) := by decide +kernel
theorem dX9_isDone_42 : decode cX9_isDone 42 = .ok (.iload_n 1, 1) := by decide +kernel
theorem dX9_isDone_43 : decode cX9_isDone 43 = .ok (.iaload, 1) := by decide +kernel
theorem dX9_isDone_44 : decode cX9_isDone 44 = .ok (.iconst 1, 1) := by decide +kernel
theorem dX9_isDone_45 : decode cX9_isDone 45 = .ok (.if_icmp .ne 32, 3) := by decide +kernel
theorem dX9_isDone_48 : decode cX9_isDone 48 = .ok (.aload_n 0, 1) := by decide +kernel
theorem dX9_isDone_49 : decode cX9_isDone 49 = .ok (.getfield 7, 3) := by decide +kernel
theorem dX9_isDone_52 : decode cX9_isDone 52 = .ok (.iload_n 2, 1) := by decide +kernel
theorem dX9_isDone_53 : decode cX9_isDone 53 = .ok (.aload_n 0, 1) := by decide +kernel
theorem dX9_isDone_54 : decode cX9_isDone 54 = .ok (.iload_n 2, 1) := by decide +kernel
theorem dX9_isDone_55 : decode cX9_isDone 55 = .ok (.iload_n 3, 1) := by decide +kernel
theorem dX9_isDone_56 : decode cX9_isDone 56 = .ok (.invokevirtual 108, 3) := by decide +kernel
theorem dX9_isDone_59 : decode cX9_isDone 59 = .ok (.invokestatic 104, 3) := by decide +kernel
theorem dX9_isDone_62 : decode cX9_isDone 62 = .ok (.iconst 1, 1) := by decide +kernel
theorem dX9_isDone_63 : decode cX9_isDone 63 = .ok (.iadd, 1) := by decide +kernel
theorem dX9_isDone_64 : decode cX9_isDone 64 = .ok (.dup2, 1) := by decide +kernel
theorem dX9_isDone_65 : decode cX9_isDone 65 = .ok (.iaload, 1) := by decide +kernel
theorem dX9_isDone_66 : decode cX9_isDone 66 = .ok (.aload_n 0, 1) := by decide +kernel
theorem dX9_isDone_67 : decode cX9_isDone 67 = .ok (.getfield 48, 3) := by decide +kernel
theorem dX9_isDone_70 : decode cX9_isDone 70 = .ok (.iload_n 1, 1) := by decide +kernel
theorem dX9_isDone_71 : decode cX9_isDone 71 = .ok (.iaload, 1) := by decide +kernel
theorem dX9_isDone_72 : decode cX9_isDone 72 = .ok (.iadd, 1) := by decide +kernel
theorem dX9_isDone_73 : decode cX9_isDone 73 = .ok (.iastore, 1) := by decide +kernel
theorem dX9_isDone_74 : decode cX9_isDone 74 = .ok (.goto 14, 3) := by decide +kernel
theorem dX9_isDone_77 : decode cX9_isDone 77 = .ok (.aload_n 0, 1) := by decide +kernel
theorem dX9_isDone_78 : decode cX9_isDone 78 = .ok (.iload_n 2, 1) := by decide +kernel
theorem dX9_isDone_79 : decode cX9_isDone 79 = .ok (.aload_n 0, 1) := by decide +kernel
theorem dX9_isDone_80 : decode cX9_isDone 80 = .ok (.iload_n 2, 1) := by decide +kernel
theorem dX9_isDone_81 : decode cX9_isDone 81 = .ok (.iload_n 3, 1) := by decide +kernel
theorem dX9_isDone_82 : decode cX9_isDone 82 = .ok (.invokevirtual 108, 3) := by decide +kernel
theorem dX9_isDone_85 : decode cX9_isDone 85 = .ok (.invokevirtual 157, 3) := by decide +kernel
theorem dX9_isDone_88 : decode cX9_isDone 88 = .ok (.bipush 6, 2) := by decide +kernel
theorem dX9_isDone_90 : decode cX9_isDone 90 = .ok (.aload_n 0, 1) := by decide +kernel
theorem dX9_isDone_91 : decode cX9_isDone 91 = .ok (.getfield 161, 3) := by decide +kernel
theorem dX9_isDone_94 : decode cX9_isDone 94 = .ok (.imul, 1) := by decide +kernel
theorem dX9_isDone_95 : decode cX9_isDone 95 = .ok (.istore 4, 2) := by decide +kernel
theorem dX9_isDone_97 : decode cX9_isDone 97 = .ok (.aload_n 0, 1) := by decide +kernel
theorem dX9_isDone_98 : decode cX9_isDone 98 = .ok (.getfield 78, 3) := by decide +kernel
theorem dX9_isDone_101 : decode cX9_isDone 101 = .ok (.iload 4, 2) := by decide +kernel
theorem dX9_isDone_103 : decode cX9_isDone 103 = .ok (.aload_n 0, 1) := by decide +kernel
theorem dX9_isDone_104 : decode cX9_isDone 104 = .ok (.getfield 39, 3) := by decide +kernel
theorem dX9_isDone_107 : decode cX9_isDone 107 = .ok (.iload_n 1, 1) := by decide +kernel
theorem dX9_isDone_108 : decode cX9_isDone 108 = .ok (.iaload, 1) := by decide +kernel
theorem dX9_isDone_109 : decode cX9_isDone 109 = .ok (.iastore, 1) := by decide +kernel
theorem dX9_isDone_110 : decode cX9_isDone 110 = .ok (.aload_n 0, 1) := by decide +kernel
theorem dX9_isDone_111 : decode cX9_isDone 111 = .ok (.getfield 78, 3) := by decide +kernel
theorem dX9_isDone_114 : decode cX9_isDone 114 = .ok (.iload 4, 2) := by decide +kernel
theorem dX9_isDone_116 : decode cX9_isDone 116 = .ok (.iconst 1, 1) := by decide +kernel
theorem dX9_isDone_117 : decode cX9_isDone 117 = .ok (.iadd, 1) := by decide +kernel
theorem dX9_isDone_118 : decode cX9_isDone 118 = .ok (.iload_n 2, 1) := by decide +kernel
theorem dX9_isDone_119 : decode cX9_isDone 119 = .ok (.iastore, 1) := by decide +kernel
theorem dX9_isDone_120 : decode cX9_isDone 120 = .ok (.aload_n 0, 1) := by decide +kernel
theorem dX9_isDone_121 : decode cX9_isDone 121 = .ok (.getfield 78, 3) := by decide +kernel
theorem dX9_isDone_124 : decode cX9_isDone 124 = .ok (.iload 4, 2) := by decide +kernel
theorem dX9_isDone_126 : decode cX9_isDone 126 = .ok (.iconst 2, 1) := by decide +kernel
theorem dX9_isDone_127 : decode cX9_isDone 127 = .ok (.iadd, 1) := by decide +kernel
theorem dX9_isDone_128 : decode cX9_isDone 128 = .ok (.iload_n 3, 1) := by decide +kernel
theorem dX9_isDone_129 : decode cX9_isDone 129 = .ok (.iastore, 1) := by decide +kernel
theorem dX9_isDone_130 : decode cX9_isDone 130 = .ok (.aload_n 0, 1) := by decide +kernel
theorem dX9_isDone_131 : decode cX9_isDone 131 = .ok (.getfield 78, 3) := by decide +kernel
theorem dX9_isDone_134 : decode cX9_isDone 134 = .ok (.iload 4, 2) := by decide +kernel
theorem dX9_isDone_136 : decode cX9_isDone 136 = .ok (.iconst 3, 1) := by decide +kernel
theorem dX9_isDone_137 : decode cX9_isDone 137 = .ok (.iadd, 1) := by decide +kernel
theorem dX9_isDone_138 : decode cX9_isDone 138 = .ok (.aload_n 0, 1) := by decide +kernel
theorem dX9_isDone_139 : decode cX9_isDone 139 = .ok (.getfield 51, 3) := by decide +kernel
theorem dX9_isDone_142 : decode cX9_isDone 142 = .ok (.iload_n 1, 1) := by decide +kernel
theorem dX9_isDone_143 : decode cX9_isDone 143 = .ok (.iaload, 1) := by decide +kernel
theorem dX9_isDone_144 : decode cX9_isDone 144 = .ok (.iastore, 1) := by decide +kernel
theorem dX9_isDone_145 : decode cX9_isDone 145 = .ok (.aload_n 0, 1) := by decide +kernel
theorem dX9_isDone_146 : decode cX9_isDone 146 = .ok (.getfield 78, 3) := by decide +kernel
theorem dX9_isDone_149 : decode cX9_isDone 149 = .ok (.iload 4, 2) := by decide +kernel
theorem dX9_isDone_151 : decode cX9_isDone 151 = .ok (.iconst 4, 1) := by decide +kernel
theorem dX9_isDone_152 : decode cX9_isDone 152 = .ok (.iadd, 1) := by decide +kernel
theorem dX9_isDone_153 : decode cX9_isDone 153 = .ok (.iload_n 1, 1) := by decide +kernel
theorem dX9_isDone_154 : decode cX9_isDone 154 = .ok (.iastore, 1) := by decide +kernel
theorem dX9_isDone_155 : decode cX9_isDone 155 = .ok (.aload_n 0, 1) := by decide +kernel
theorem dX9_isDone_156 : decode cX9_isDone 156 = .ok (.getfield 78, 3) := by decide +kernel
theorem dX9_isDone_159 : decode cX9_isDone 159 = .ok (.iload 4, 2) := by decide +kernel
theorem dX9_isDone_161 : decode cX9_isDone 161 = .ok (.iconst 5, 1) := by decide +kernel
theorem dX9_isDone_162 : decode cX9_isDone 162 = .ok (.iadd, 1) := by decide +kernel
theorem dX9_isDone_163 : decode cX9_isDone 163 = .ok (.iload_n 1, 1) := by decide +kernel
theorem dX9_isDone_164 : decode cX9_isDone 164 = .ok (.ifCond .ne 8, 3) := by decide +kernel
theorem dX9_isDone_167 : decode cX9_isDone 167 = .ok (.bipush (-6), 2) := by decide +kernel
theorem dX9_isDone_169 : decode cX9_isDone 169 = .ok (.goto 11, 3) := by decide +kernel
theorem dX9_isDone_172 : decode cX9_isDone 172 = .ok (.aload_n 0, 1) := by decide +kernel
theorem dX9_isDone_173 : decode cX9_isDone 173 = .ok (.getfield 36, 3) := by decide +kernel
theorem dX9_isDone_176 : decode cX9_isDone 176 = .ok (.iload_n 1, 1) := by decide +kernel
theorem dX9_isDone_177 : decode cX9_isDone 177 = .ok (.iconst 1, 1) := by decide +kernel
theorem dX9_isDone_178 : decode cX9_isDone 178 = .ok (.isub, 1) := by decide +kernel
theorem dX9_isDone_179 : decode cX9_isDone 179 = .ok (.iaload, 1) := by decide +kernel
theorem dX9_isDone_180 : decode cX9_isDone 180 = .ok (.iastore, 1) := by decide +kernel
theorem dX9_isDone_181 : decode cX9_isDone 181 = .ok (.aload_n 0, 1) := by decide +kernel
theorem dX9_isDone_182 : decode cX9_isDone 182 = .ok (.dup, 1) := by decide +kernel
theorem dX9_isDone_183 : decode cX9_isDone 183 = .ok (.getfield 161, 3) := by decide +kernel
theorem dX9_isDone_186 : decode cX9_isDone 186 = .ok (.iconst 1, 1) := by decide +kernel
theorem dX9_isDone_187 : decode cX9_isDone 187 = .ok (.iadd, 1) := by decide +kernel
theorem dX9_isDone_188 : decode cX9_isDone 188 = .ok (.putfield 161, 3) := by decide +kernel
theorem dX9_isDone_191 : decode cX9_isDone 191 = .ok (.return_, 1) := by decide +kernel
theorem dX9_waitsFor_0 : decode cX9_waitsFor 0 = .ok (.aload_n 0, 1) := by decide +kernel
theorem dX9_waitsFor_1 : decode cX9_waitsFor 1 = .ok (.getfield 63, 3) := by decide +kernel
theorem dX9_waitsFor_4 : decode cX9_waitsFor 4 = .ok (.aload_n 0, 1) := by decide +kernel
theorem dX9_waitsFor_5 : decode cX9_waitsFor 5 = .ok (.getfield 164, 3) := by decide +kernel
theorem dX9_waitsFor_8 : decode cX9_waitsFor 8 = .ok (.iload_n 1, 1) := by decide +kernel
theorem dX9_waitsFor_9 : decode cX9_waitsFor 9 = .ok (.iastore, 1) := by decide +kernel
theorem dX9_waitsFor_10 : decode cX9_waitsFor 10 = .ok (.aload_n 0, 1) := by decide +kernel
theorem dX9_waitsFor_11 : decode cX9_waitsFor 11 = .ok (.getfield 66, 3) := by decide +kernel
theorem dX9_waitsFor_14 : decode cX9_waitsFor 14 = .ok (.aload_n 0, 1) := by decide +kernel
theorem dX9_waitsFor_15 : decode cX9_waitsFor 15 = .ok (.getfield 164, 3) := by decide +kernel
theorem dX9_waitsFor_18 : decode cX9_waitsFor 18 = .ok (.aload_n 0, 1) := by decide +kernel
theorem dX9_waitsFor_19 : decode cX9_waitsFor 19 = .ok (.getfield 42, 3) := by decide +kernel
theorem dX9_waitsFor_22 : decode cX9_waitsFor 22 = .ok (.iload_n 2, 1) := by decide +kernel
theorem dX9_waitsFor_23 : decode cX9_waitsFor 23 = .ok (.iaload, 1) := by decide +kernel
theorem dX9_waitsFor_24 : decode cX9_waitsFor 24 = .ok (.iastore, 1) := by decide +kernel
theorem dX9_waitsFor_25 : decode cX9_waitsFor 25 = .ok (.aload_n 0, 1) := by decide +kernel
theorem dX9_waitsFor_26 : decode cX9_waitsFor 26 = .ok (.getfield 69, 3) := by decide +kernel
theorem dX9_waitsFor_29 : decode cX9_waitsFor 29 = .ok (.aload_n 0, 1) := by decide +kernel
theorem dX9_waitsFor_30 : decode cX9_waitsFor 30 = .ok (.getfield 164, 3) := by decide +kernel
theorem dX9_waitsFor_33 : decode cX9_waitsFor 33 = .ok (.aload_n 0, 1) := by decide +kernel
theorem dX9_waitsFor_34 : decode cX9_waitsFor 34 = .ok (.getfield 45, 3) := by decide +kernel
theorem dX9_waitsFor_37 : decode cX9_waitsFor 37 = .ok (.iload_n 2, 1) := by decide +kernel
theorem dX9_waitsFor_38 : decode cX9_waitsFor 38 = .ok (.iaload, 1) := by decide +kernel
theorem dX9_waitsFor_39 : decode cX9_waitsFor 39 = .ok (.iastore, 1) := by decide +kernel
theorem dX9_waitsFor_40 : decode cX9_waitsFor 40 = .ok (.aload_n 0, 1) := by decide +kernel
theorem dX9_waitsFor_41 : decode cX9_waitsFor 41 = .ok (.getfield 72, 3) := by decide +kernel
theorem dX9_waitsFor_44 : decode cX9_waitsFor 44 = .ok (.aload_n 0, 1) := by decide +kernel
theorem dX9_waitsFor_45 : decode cX9_waitsFor 45 = .ok (.getfield 164, 3) := by decide +kernel
theorem dX9_waitsFor_48 : decode cX9_waitsFor 48 = .ok (.iload_n 2, 1) := by decide +kernel
theorem dX9_waitsFor_49 : decode cX9_waitsFor 49 = .ok (.iastore, 1) := by decide +kernel
theorem dX9_waitsFor_50 : decode cX9_waitsFor 50 = .ok (.iconst 0, 1) := by decide +kernel
theorem dX9_waitsFor_51 : decode cX9_waitsFor 51 = .ok (.istore_n 3, 1) := by decide +kernel
theorem dX9_waitsFor_52 : decode cX9_waitsFor 52 = .ok (.iload_n 3, 1) := by decide +kernel
theorem dX9_waitsFor_53 : decode cX9_waitsFor 53 = .ok (.iload_n 2, 1) := by decide +kernel
theorem dX9_waitsFor_54 : decode cX9_waitsFor 54 = .ok (.if_icmp .ge 29, 3) := by decide +kernel
theorem dX9_waitsFor_57 : decode cX9_waitsFor 57 = .ok (.aload_n 0, 1) := by decide +kernel
theorem dX9_waitsFor_58 : decode cX9_waitsFor 58 = .ok (.getfield 75, 3) := by decide +kernel
theorem dX9_waitsFor_61 : decode cX9_waitsFor 61 = .ok (.bipush 10, 2) := by decide +kernel
theorem dX9_waitsFor_63 : decode cX9_waitsFor 63 = .ok (.aload_n 0, 1) := by decide +kernel
theorem dX9_waitsFor_64 : decode cX9_waitsFor 64 = .ok (.getfield 164, 3) := by decide +kernel
theorem dX9_waitsFor_67 : decode cX9_waitsFor 67 = .ok (.imul, 1) := by decide +kernel
theorem dX9_waitsFor_68 : decode cX9_waitsFor 68 = .ok (.iload_n 3, 1) := by decide +kernel
theorem dX9_waitsFor_69 : decode cX9_waitsFor 69 = .ok (.iadd, 1) := by decide +kernel
theorem dX9_waitsFor_70 : decode cX9_waitsFor 70 = .ok (.aload_n 0, 1) := by decide +kernel
theorem dX9_waitsFor_71 : decode cX9_waitsFor 71 = .ok (.getfield 36, 3) := by decide +kernel
theorem dX9_waitsFor_74 : decode cX9_waitsFor 74 = .ok (.iload_n 3, 1) := by decide +kernel
theorem dX9_waitsFor_75 : decode cX9_waitsFor 75 = .ok (.iaload, 1) := by decide +kernel
theorem dX9_waitsFor_76 : decode cX9_waitsFor 76 = .ok (.iastore, 1) := by decide +kernel
theorem dX9_waitsFor_77 : decode cX9_waitsFor 77 = .ok (.iinc 3 1, 3) := by decide +kernel
theorem dX9_waitsFor_80 : decode cX9_waitsFor 80 = .ok (.goto (-28), 3) := by decide +kernel
theorem dX9_waitsFor_83 : decode cX9_waitsFor 83 = .ok (.aload_n 0, 1) := by decide +kernel
theorem dX9_waitsFor_84 : decode cX9_waitsFor 84 = .ok (.dup, 1) := by decide +kernel
theorem dX9_waitsFor_85 : decode cX9_waitsFor 85 = .ok (.getfield 164, 3) := by decide +kernel
theorem dX9_waitsFor_88 : decode cX9_waitsFor 88 = .ok (.iconst 1, 1) := by decide +kernel
theorem dX9_waitsFor_89 : decode cX9_waitsFor 89 = .ok (.iadd, 1) := by decide +kernel
theorem dX9_waitsFor_90 : decode cX9_waitsFor 90 = .ok (.putfield 164, 3) := by decide +kernel
theorem dX9_waitsFor_93 : decode cX9_waitsFor 93 = .ok (.return_, 1) := by decide +kernel
theorem dX9_goesOn_0 : decode cX9_goesOn 0 = .ok (.aload_n 0, 1) := by decide +kernel
theorem dX9_goesOn_1 : decode cX9_goesOn 1 = .ok (.getfield 143, 3) := by decide +kernel
theorem dX9_goesOn_4 : decode cX9_goesOn 4 = .ok (.istore_n 1, 1) := by decide +kernel
theorem dX9_goesOn_5 : decode cX9_goesOn 5 = .ok (.aload_n 0, 1) := by decide +kernel
theorem dX9_goesOn_6 : decode cX9_goesOn 6 = .ok (.getfield 54, 3) := by decide +kernel
theorem dX9_goesOn_9 : decode cX9_goesOn 9 = .ok (.iload_n 1, 1) := by decide +kernel
theorem dX9_goesOn_10 : decode cX9_goesOn 10 = .ok (.iaload, 1) := by decide +kernel
theorem dX9_goesOn_11 : decode cX9_goesOn 11 = .ok (.istore_n 2, 1) := by decide +kernel
theorem dX9_goesOn_12 : decode cX9_goesOn 12 = .ok (.aload_n 0, 1) := by decide +kernel
theorem dX9_goesOn_13 : decode cX9_goesOn 13 = .ok (.getfield 57, 3) := by decide +kernel
theorem dX9_goesOn_16 : decode cX9_goesOn 16 = .ok (.iload_n 1, 1) := by decide +kernel
theorem dX9_goesOn_17 : decode cX9_goesOn 17 = .ok (.iaload, 1) := by decide +kernel
theorem dX9_goesOn_18 : decode cX9_goesOn 18 = .ok (.istore_n 3, 1) := by decide +kernel
theorem dX9_goesOn_19 : decode cX9_goesOn 19 = .ok (.iload_n 3, 1) := by decide +kernel
theorem dX9_goesOn_20 : decode cX9_goesOn 20 = .ok (.aload_n 0, 1) := by decide +kernel
theorem dX9_goesOn_21 : decode cX9_goesOn 21 = .ok (.getfield 7, 3) := by decide +kernel
theorem dX9_goesOn_24 : decode cX9_goesOn 24 = .ok (.bipush 102, 2) := by decide +kernel
theorem dX9_goesOn_26 : decode cX9_goesOn 26 = .ok (.iaload, 1) := by decide +kernel
theorem dX9_goesOn_27 : decode cX9_goesOn 27 = .ok (.if_icmp .ge 65, 3) := by decide +kernel
theorem dX9_goesOn_30 : decode cX9_goesOn 30 = .ok (.aload_n 0, 1) := by decide +kernel
theorem dX9_goesOn_31 : decode cX9_goesOn 31 = .ok (.getfield 57, 3) := by decide +kernel
theorem dX9_goesOn_34 : decode cX9_goesOn 34 = .ok (.iload_n 1, 1) := by decide +kernel
theorem dX9_goesOn_35 : decode cX9_goesOn 35 = .ok (.dup2, 1) := by decide +kernel
theorem dX9_goesOn_36 : decode cX9_goesOn 36 = .ok (.iaload, 1) := by decide +kernel
theorem dX9_goesOn_37 : decode cX9_goesOn 37 = .ok (.iconst 1, 1) := by decide +kernel
theorem dX9_goesOn_38 : decode cX9_goesOn 38 = .ok (.iadd, 1) := by decide +kernel
theorem dX9_goesOn_39 : decode cX9_goesOn 39 = .ok (.iastore, 1) := by decide +kernel
theorem dX9_goesOn_40 : decode cX9_goesOn 40 = .ok (.aload_n 0, 1) := by decide +kernel
theorem dX9_goesOn_41 : decode cX9_goesOn 41 = .ok (.iload_n 3, 1) := by decide +kernel
theorem dX9_goesOn_42 : decode cX9_goesOn 42 = .ok (.iload_n 1, 1) := by decide +kernel
theorem dX9_goesOn_43 : decode cX9_goesOn 43 = .ok (.iload_n 2, 1) := by decide +kernel
theorem dX9_goesOn_44 : decode cX9_goesOn 44 = .ok (.invokevirtual 167, 3) := by decide +kernel
theorem dX9_goesOn_47 : decode cX9_goesOn 47 = .ok (.istore 4, 2) := by decide +kernel
theorem dX9_goesOn_49 : decode cX9_goesOn 49 = .ok (.iload 4, 2) := by decide +kernel
theorem dX9_goesOn_51 : decode cX9_goesOn 51 = .ok (.ifCond .eq 17, 3) := by decide +kernel
theorem dX9_goesOn_54 : decode cX9_goesOn 54 = .ok (.iload_n 2, 1) := by decide +kernel
theorem dX9_goesOn_55 : decode cX9_goesOn 55 = .ok (.iconst 2, 1) := by decide +kernel
theorem dX9_goesOn_56 : decode cX9_goesOn 56 = .ok (.if_icmp .ne 12, 3) := by decide +kernel
theorem dX9_goesOn_59 : decode cX9_goesOn 59 = .ok (.aload_n 0, 1) := by decide +kernel
theorem dX9_goesOn_60 : decode cX9_goesOn 60 = .ok (.iload_n 3, 1) := by decide +kernel
theorem dX9_goesOn_61 : decode cX9_goesOn 61 = .ok (.iload_n 1, 1) := by decide +kernel
theorem dX9_goesOn_62 : decode cX9_goesOn 62 = .ok (.invokevirtual 170, 3) := by decide +kernel
theorem dX9_goesOn_65 : decode cX9_goesOn 65 = .ok (.goto 26, 3) := by decide +kernel
theorem dX9_goesOn_68 : decode cX9_goesOn 68 = .ok (.iload 4, 2) := by decide +kernel
theorem dX9_goesOn_70 : decode cX9_goesOn 70 = .ok (.ifCond .eq 21, 3) := by decide +kernel
theorem dX9_goesOn_73 : decode cX9_goesOn 73 = .ok (.aload_n 0, 1) := by decide +kernel
theorem dX9_goesOn_74 : decode cX9_goesOn 74 = .ok (.iload_n 3, 1) := by decide +kernel
theorem dX9_goesOn_75 : decode cX9_goesOn 75 = .ok (.aload_n 0, 1) := by decide +kernel
theorem dX9_goesOn_76 : decode cX9_goesOn 76 = .ok (.getfield 42, 3) := by decide +kernel
theorem dX9_goesOn_79 : decode cX9_goesOn 79 = .ok (.iload_n 1, 1) := by decide +kernel
theorem dX9_goesOn_80 : decode cX9_goesOn 80 = .ok (.iaload, 1) := by decide +kernel
theorem dX9_goesOn_81 : decode cX9_goesOn 81 = .ok (.aload_n 0, 1) := by decide +kernel
theorem dX9_goesOn_82 : decode cX9_goesOn 82 = .ok (.getfield 45, 3) := by decide +kernel
theorem dX9_goesOn_85 : decode cX9_goesOn 85 = .ok (.iload_n 1, 1) := by decide +kernel
theorem dX9_goesOn_86 : decode cX9_goesOn 86 = .ok (.iaload, 1) := by decide +kernel
theorem dX9_goesOn_87 : decode cX9_goesOn 87 = .ok (.iload_n 1, 1) := by decide +kernel
theorem dX9_goesOn_88 : decode cX9_goesOn 88 = .ok (.invokevirtual 173, 3) := by decide +kernel
theorem dX9_goesOn_91 : decode cX9_goesOn 91 = .ok (.return_, 1) := by decide +kernel
theorem dX9_goesOn_92 : decode cX9_goesOn 92 = .ok (.iload_n 2, 1) := by decide +kernel
theorem dX9_goesOn_93 : decode cX9_goesOn 93 = .ok (.ifCond .ne 8, 3) := by decide +kernel
theorem dX9_goesOn_96 : decode cX9_goesOn 96 = .ok (.aload_n 0, 1) := by decide +kernel
theorem dX9_goesOn_97 : decode cX9_goesOn 97 = .ok (.iload_n 1, 1) := by decide +kernel
theorem dX9_goesOn_98 : decode cX9_goesOn 98 = .ok (.invokevirtual 176, 3) := by decide +kernel
theorem dX9_goesOn_101 : decode cX9_goesOn 101 = .ok (.aload_n 0, 1) := by decide +kernel
theorem dX9_goesOn_102 : decode cX9_goesOn 102 = .ok (.getfield 57, 3) := by decide +kernel
theorem dX9_goesOn_105 : decode cX9_goesOn 105 = .ok (.iload_n 1, 1) := by decide +kernel
theorem dX9_goesOn_106 : decode cX9_goesOn 106 = .ok (.iconst 0, 1) := by decide +kernel
theorem dX9_goesOn_107 : decode cX9_goesOn 107 = .ok (.iastore, 1) := by decide +kernel
theorem dX9_goesOn_108 : decode cX9_goesOn 108 = .ok (.aload_n 0, 1) := by decide +kernel
theorem dX9_goesOn_109 : decode cX9_goesOn 109 = .ok (.getfield 54, 3) := by decide +kernel
theorem dX9_goesOn_112 : decode cX9_goesOn 112 = .ok (.iload_n 1, 1) := by decide +kernel
theorem dX9_goesOn_113 : decode cX9_goesOn 113 = .ok (.dup2, 1) := by decide +kernel
theorem dX9_goesOn_114 : decode cX9_goesOn 114 = .ok (.iaload, 1) := by decide +kernel
theorem dX9_goesOn_115 : decode cX9_goesOn 115 = .ok (.iconst 1, 1) := by decide +kernel
theorem dX9_goesOn_116 : decode cX9_goesOn 116 = .ok (.iadd, 1) := by decide +kernel
theorem dX9_goesOn_117 : decode cX9_goesOn 117 = .ok (.iastore, 1) := by decide +kernel
theorem dX9_goesOn_118 : decode cX9_goesOn 118 = .ok (.iload_n 2, 1) := by decide +kernel
theorem dX9_goesOn_119 : decode cX9_goesOn 119 = .ok (.iconst 2, 1) := by decide +kernel
theorem dX9_goesOn_120 : decode cX9_goesOn 120 = .ok (.if_icmp .ne 25, 3) := by decide +kernel
theorem dX9_goesOn_123 : decode cX9_goesOn 123 = .ok (.aload_n 0, 1) := by decide +kernel
theorem dX9_goesOn_124 : decode cX9_goesOn 124 = .ok (.getfield 60, 3) := by decide +kernel
theorem dX9_goesOn_127 : decode cX9_goesOn 127 = .ok (.aload_n 0, 1) := by decide +kernel
theorem dX9_goesOn_128 : decode cX9_goesOn 128 = .ok (.getfield 42, 3) := by decide +kernel
theorem dX9_goesOn_131 : decode cX9_goesOn 131 = .ok (.iload_n 1, 1) := by decide +kernel
theorem dX9_goesOn_132 : decode cX9_goesOn 132 = .ok (.iaload, 1) := by decide +kernel
theorem dX9_goesOn_133 : decode cX9_goesOn 133 = .ok (.iconst 0, 1) := by decide +kernel
theorem dX9_goesOn_134 : decode cX9_goesOn 134 = .ok (.bastore, 1) := by decide +kernel
theorem dX9_goesOn_135 : decode cX9_goesOn 135 = .ok (.aload_n 0, 1) := by decide +kernel
theorem dX9_goesOn_136 : decode cX9_goesOn 136 = .ok (.dup, 1) := by decide +kernel
theorem dX9_goesOn_137 : decode cX9_goesOn 137 = .ok (.getfield 143, 3) := by decide +kernel
theorem dX9_goesOn_140 : decode cX9_goesOn 140 = .ok (.iconst 1, 1) := by decide +kernel
theorem dX9_goesOn_141 : decode cX9_goesOn 141 = .ok (.isub, 1) := by decide +kernel
theorem dX9_goesOn_142 : decode cX9_goesOn 142 = .ok (.putfield 143, 3) := by decide +kernel
theorem dX9_goesOn_145 : decode cX9_goesOn 145 = .ok (.return_, 1) := by decide +kernel
theorem dX9_clears_0 : decode cX9_clears 0 = .ok (.aload_n 0, 1) := by decide +kernel
theorem dX9_clears_1 : decode cX9_clears 1 = .ok (.getfield 114, 3) := by decide +kernel
theorem dX9_clears_4 : decode cX9_clears 4 = .ok (.ifCond .ne 21, 3) := by decide +kernel
theorem dX9_clears_7 : decode cX9_clears 7 = .ok (.aload_n 0, 1) := by decide +kernel
theorem dX9_clears_8 : decode cX9_clears 8 = .ok (.getfield 143, 3) := by decide +kernel
theorem dX9_clears_11 : decode cX9_clears 11 = .ok (.aload_n 0, 1) := by decide +kernel
theorem dX9_clears_12 : decode cX9_clears 12 = .ok (.getfield 180, 3) := by decide +kernel
theorem dX9_clears_15 : decode cX9_clears 15 = .ok (.if_icmp .lt 10, 3) := by decide +kernel
theorem dX9_clears_18 : decode cX9_clears 18 = .ok (.aload_n 0, 1) := by decide +kernel
theorem dX9_clears_19 : decode cX9_clears 19 = .ok (.invokevirtual 183, 3) := by decide +kernel
theorem dX9_clears_22 : decode cX9_clears 22 = .ok (.goto (-22), 3) := by decide +kernel
theorem dX9_clears_25 : decode cX9_clears 25 = .ok (.return_, 1) := by decide +kernel
theorem dX9_carries_0 : decode cX9_carries 0 = .ok (.aload_n 0, 1) := by decide +kernel
theorem dX9_carries_1 : decode cX9_carries 1 = .ok (.iconst 0, 1) := by decide +kernel
theorem dX9_carries_2 : decode cX9_carries 2 = .ok (.putfield 114, 3) := by decide +kernel
theorem dX9_carries_5 : decode cX9_carries 5 = .ok (.aload_n 0, 1) := by decide +kernel
theorem dX9_carries_6 : decode cX9_carries 6 = .ok (.iconst 0, 1) := by decide +kernel
theorem dX9_carries_7 : decode cX9_carries 7 = .ok (.putfield 130, 3) := by decide +kernel
theorem dX9_carries_10 : decode cX9_carries 10 = .ok (.aload_n 0, 1) := by decide +kernel
theorem dX9_carries_11 : decode cX9_carries 11 = .ok (.iconst 0, 1) := by decide +kernel
theorem dX9_carries_12 : decode cX9_carries 12 = .ok (.putfield 140, 3) := by decide +kernel
theorem dX9_carries_15 : decode cX9_carries 15 = .ok (.aload_n 0, 1) := by decide +kernel
theorem dX9_carries_16 : decode cX9_carries 16 = .ok (.bipush (-6), 2) := by decide +kernel
theorem dX9_carries_18 : decode cX9_carries 18 = .ok (.putfield 133, 3) := by decide +kernel
theorem dX9_carries_21 : decode cX9_carries 21 = .ok (.aload_n 0, 1) := by decide +kernel
theorem dX9_carries_22 : decode cX9_carries 22 = .ok (.iconst 0, 1) := by decide +kernel
theorem dX9_carries_23 : decode cX9_carries 23 = .ok (.putfield 161, 3) := by decide +kernel
theorem dX9_carries_26 : decode cX9_carries 26 = .ok (.aload_n 0, 1) := by decide +kernel
theorem dX9_carries_27 : decode cX9_carries 27 = .ok (.iconst 0, 1) := by decide +kernel
theorem dX9_carries_28 : decode cX9_carries 28 = .ok (.putfield 164, 3) := by decide +kernel
theorem dX9_carries_31 : decode cX9_carries 31 = .ok (.aload_n 0, 1) := by decide +kernel
theorem dX9_carries_32 : decode cX9_carries 32 = .ok (.iconst 0, 1) := by decide +kernel
theorem dX9_carries_33 : decode cX9_carries 33 = .ok (.putfield 123, 3) := by decide +kernel
theorem dX9_carries_36 : decode cX9_carries 36 = .ok (.iconst 0, 1) := by decide +kernel
theorem dX9_carries_37 : decode cX9_carries 37 = .ok (.istore 5, 2) := by decide +kernel
theorem dX9_carries_39 : decode cX9_carries 39 = .ok (.iload 5, 2) := by decide +kernel
theorem dX9_carries_41 : decode cX9_carries 41 = .ok (.iconst 4, 1) := by decide +kernel
theorem dX9_carries_42 : decode cX9_carries 42 = .ok (.if_icmp .ge 17, 3) := by decide +kernel
theorem dX9_carries_45 : decode cX9_carries 45 = .ok (.aload_n 0, 1) := by decide +kernel
theorem dX9_carries_46 : decode cX9_carries 46 = .ok (.getfield 60, 3) := by decide +kernel
theorem dX9_carries_49 : decode cX9_carries 49 = .ok (.iload 5, 2) := by decide +kernel
theorem dX9_carries_51 : decode cX9_carries 51 = .ok (.iconst 0, 1) := by decide +kernel
theorem dX9_carries_52 : decode cX9_carries 52 = .ok (.bastore, 1) := by decide +kernel
theorem dX9_carries_53 : decode cX9_carries 53 = .ok (.iinc 5 1, 3) := by decide +kernel
theorem dX9_carries_56 : decode cX9_carries 56 = .ok (.goto (-17), 3) := by decide +kernel
theorem dX9_carries_59 : decode cX9_carries 59 = .ok (.aload_n 0, 1) := by decide +kernel
theorem dX9_carries_60 : decode cX9_carries 60 = .ok (.iconst 0, 1) := by decide +kernel
theorem dX9_carries_61 : decode cX9_carries 61 = .ok (.putfield 180, 3) := by decide +kernel
theorem dX9_carries_64 : decode cX9_carries 64 = .ok (.aload_n 0, 1) := by decide +kernel
theorem dX9_carries_65 : decode cX9_carries 65 = .ok (.bipush (-6), 2) := by decide +kernel
theorem dX9_carries_67 : decode cX9_carries 67 = .ok (.putfield 143, 3) := by decide +kernel
theorem dX9_carries_70 : decode cX9_carries 70 = .ok (.aload_n 0, 1) := by decide +kernel
theorem dX9_carries_71 : decode cX9_carries 71 = .ok (.iload_n 1, 1) := by decide +kernel
theorem dX9_carries_72 : decode cX9_carries 72 = .ok (.iload_n 2, 1) := by decide +kernel
theorem dX9_carries_73 : decode cX9_carries 73 = .ok (.iload_n 3, 1) := by decide +kernel
theorem dX9_carries_74 : decode cX9_carries 74 = .ok (.iload 4, 2) := by decide +kernel
theorem dX9_carries_76 : decode cX9_carries 76 = .ok (.iconst 0, 1) := by decide +kernel
theorem dX9_carries_77 : decode cX9_carries 77 = .ok (.invokevirtual 149, 3) := by decide +kernel
theorem dX9_carries_80 : decode cX9_carries 80 = .ok (.aload_n 0, 1) := by decide +kernel
theorem dX9_carries_81 : decode cX9_carries 81 = .ok (.invokevirtual 186, 3) := by decide +kernel
theorem dX9_carries_84 : decode cX9_carries 84 = .ok (.iconst 0, 1) := by decide +kernel
theorem dX9_carries_85 : decode cX9_carries 85 = .ok (.istore 5, 2) := by decide +kernel
theorem dX9_carries_87 : decode cX9_carries 87 = .ok (.iload 5, 2) := by decide +kernel
theorem dX9_carries_89 : decode cX9_carries 89 = .ok (.aload_n 0, 1) := by decide +kernel
theorem dX9_carries_90 : decode cX9_carries 90 = .ok (.getfield 164, 3) := by decide +kernel
theorem dX9_carries_93 : decode cX9_carries 93 = .ok (.if_icmp .ge 106, 3) := by decide +kernel
theorem dX9_carries_96 : decode cX9_carries 96 = .ok (.aload_n 0, 1) := by decide +kernel
theorem dX9_carries_97 : decode cX9_carries 97 = .ok (.getfield 114, 3) := by decide +kernel
theorem dX9_carries_100 : decode cX9_carries 100 = .ok (.ifCond .ne 99, 3) := by decide +kernel
theorem dX9_carries_103 : decode cX9_carries 103 = .ok (.aload_n 0, 1) := by decide +kernel
theorem dX9_carries_104 : decode cX9_carries 104 = .ok (.getfield 72, 3) := by decide +kernel
theorem dX9_carries_107 : decode cX9_carries 107 = .ok (.iload 5, 2) := by decide +kernel
theorem dX9_carries_109 : decode cX9_carries 109 = .ok (.iaload, 1) := by decide +kernel
theorem dX9_carries_110 : decode cX9_carries 110 = .ok (.istore 6, 2) := by decide +kernel
theorem dX9_carries_112 : decode cX9_carries 112 = .ok (.iconst 0, 1) := by decide +kernel
theorem dX9_carries_113 : decode cX9_carries 113 = .ok (.istore 7, 2) := by decide +kernel
theorem dX9_carries_115 : decode cX9_carries 115 = .ok (.iload 7, 2) := by decide +kernel
theorem dX9_carries_117 : decode cX9_carries 117 = .ok (.iload 6, 2) := by decide +kernel
theorem dX9_carries_119 : decode cX9_carries 119 = .ok (.if_icmp .ge 29, 3) := by decide +kernel
theorem dX9_carries_122 : decode cX9_carries 122 = .ok (.aload_n 0, 1) := by decide +kernel
theorem dX9_carries_123 : decode cX9_carries 123 = .ok (.getfield 36, 3) := by decide +kernel
theorem dX9_carries_126 : decode cX9_carries 126 = .ok (.iload 7, 2) := by decide +kernel
theorem dX9_carries_128 : decode cX9_carries 128 = .ok (.aload_n 0, 1) := by decide +kernel
theorem dX9_carries_129 : decode cX9_carries 129 = .ok (.getfield 75, 3) := by decide +kernel
theorem dX9_carries_132 : decode cX9_carries 132 = .ok (.bipush 10, 2) := by decide +kernel
theorem dX9_carries_134 : decode cX9_carries 134 = .ok (.iload 5, 2) := by decide +kernel
theorem dX9_carries_136 : decode cX9_carries 136 = .ok (.imul, 1) := by decide +kernel
theorem dX9_carries_137 : decode cX9_carries 137 = .ok (.iload 7, 2) := by decide +kernel
theorem dX9_carries_139 : decode cX9_carries 139 = .ok (.iadd, 1) := by decide +kernel
theorem dX9_carries_140 : decode cX9_carries 140 = .ok (.iaload, 1) := by decide +kernel
theorem dX9_carries_141 : decode cX9_carries 141 = .ok (.iastore, 1) := by decide +kernel
theorem dX9_carries_142 : decode cX9_carries 142 = .ok (.iinc 7 1, 3) := by decide +kernel
theorem dX9_carries_145 : decode cX9_carries 145 = .ok (.goto (-30), 3) := by decide +kernel
theorem dX9_carries_148 : decode cX9_carries 148 = .ok (.aload_n 0, 1) := by decide +kernel
theorem dX9_carries_149 : decode cX9_carries 149 = .ok (.iload 6, 2) := by decide +kernel
theorem dX9_carries_151 : decode cX9_carries 151 = .ok (.iconst 1, 1) := by decide +kernel
theorem dX9_carries_152 : decode cX9_carries 152 = .ok (.iadd, 1) := by decide +kernel
theorem dX9_carries_153 : decode cX9_carries 153 = .ok (.putfield 180, 3) := by decide +kernel
theorem dX9_carries_156 : decode cX9_carries 156 = .ok (.aload_n 0, 1) := by decide +kernel
theorem dX9_carries_157 : decode cX9_carries 157 = .ok (.iload 6, 2) := by decide +kernel
theorem dX9_carries_159 : decode cX9_carries 159 = .ok (.putfield 143, 3) := by decide +kernel
theorem dX9_carries_162 : decode cX9_carries 162 = .ok (.aload_n 0, 1) := by decide +kernel
theorem dX9_carries_163 : decode cX9_carries 163 = .ok (.aload_n 0, 1) := by decide +kernel
theorem dX9_carries_164 : decode cX9_carries 164 = .ok (.getfield 63, 3) := by decide +kernel
theorem dX9_carries_167 : decode cX9_carries 167 = .ok (.iload 5, 2) := by decide +kernel
theorem dX9_carries_169 : decode cX9_carries 169 = .ok (.iaload, 1) := by decide +kernel
theorem dX9_carries_170 : decode cX9_carries 170 = .ok (.aload_n 0, 1) := by decide +kernel
theorem dX9_carries_171 : decode cX9_carries 171 = .ok (.getfield 66, 3) := by decide +kernel
theorem dX9_carries_174 : decode cX9_carries 174 = .ok (.iload 5, 2) := by decide +kernel
theorem dX9_carries_176 : decode cX9_carries 176 = .ok (.iaload, 1) := by decide +kernel
theorem dX9_carries_177 : decode cX9_carries 177 = .ok (.aload_n 0, 1) := by decide +kernel
theorem dX9_carries_178 : decode cX9_carries 178 = .ok (.getfield 69, 3) := by decide +kernel
theorem dX9_carries_181 : decode cX9_carries 181 = .ok (.iload 5, 2) := by decide +kernel
theorem dX9_carries_183 : decode cX9_carries 183 = .ok (.iaload, 1) := by decide +kernel
theorem dX9_carries_184 : decode cX9_carries 184 = .ok (.iload 6, 2) := by decide +kernel
theorem dX9_carries_186 : decode cX9_carries 186 = .ok (.invokevirtual 173, 3) := by decide +kernel
theorem dX9_carries_189 : decode cX9_carries 189 = .ok (.aload_n 0, 1) := by decide +kernel
theorem dX9_carries_190 : decode cX9_carries 190 = .ok (.invokevirtual 186, 3) := by decide +kernel
theorem dX9_carries_193 : decode cX9_carries 193 = .ok (.iinc 5 1, 3) := by decide +kernel
theorem dX9_carries_196 : decode cX9_carries 196 = .ok (.goto (-109), 3) := by decide +kernel
theorem dX9_carries_199 : decode cX9_carries 199 = .ok (.return_, 1) := by decide +kernel
theorem dX9_writesJournal_0 : decode cX9_writesJournal 0 = .ok (.aload_n 0, 1) := by decide +kernel
theorem dX9_writesJournal_1 : decode cX9_writesJournal 1 = .ok (.getfield 7, 3) := by decide +kernel
theorem dX9_writesJournal_4 : decode cX9_writesJournal 4 = .ok (.sipush 199, 3) := by decide +kernel
theorem dX9_writesJournal_7 : decode cX9_writesJournal 7 = .ok (.aload_n 0, 1) := by decide +kernel
theorem dX9_writesJournal_8 : decode cX9_writesJournal 8 = .ok (.getfield 161, 3) := by decide +kernel
theorem dX9_writesJournal_11 : decode cX9_writesJournal 11 = .ok (.iastore, 1) := by decide +kernel
theorem dX9_writesJournal_12 : decode cX9_writesJournal 12 = .ok (.iconst 0, 1) := by decide +kernel
theorem dX9_writesJournal_13 : decode cX9_writesJournal 13 = .ok (.istore_n 1, 1) := by decide +kernel
theorem dX9_writesJournal_14 : decode cX9_writesJournal 14 = .ok (.iload_n 1, 1) := by decide +kernel
theorem dX9_writesJournal_15 : decode cX9_writesJournal 15 = .ok (.sipush 600, 3) := by decide +kernel
theorem dX9_writesJournal_18 : decode cX9_writesJournal 18 = .ok (.if_icmp .ge 40, 3) := by decide +kernel
theorem dX9_writesJournal_21 : decode cX9_writesJournal 21 = .ok (.aload_n 0, 1) := by decide +kernel
theorem dX9_writesJournal_22 : decode cX9_writesJournal 22 = .ok (.getfield 7, 3) := by decide +kernel
theorem dX9_writesJournal_25 : decode cX9_writesJournal 25 = .ok (.sipush 200, 3) := by decide +kernel
theorem dX9_writesJournal_28 : decode cX9_writesJournal 28 = .ok (.iload_n 1, 1) := by decide +kernel
theorem dX9_writesJournal_29 : decode cX9_writesJournal 29 = .ok (.iadd, 1) := by decide +kernel
theorem dX9_writesJournal_30 : decode cX9_writesJournal 30 = .ok (.iload_n 1, 1) := by decide +kernel
theorem dX9_writesJournal_31 : decode cX9_writesJournal 31 = .ok (.bipush 6, 2) := by decide +kernel
theorem dX9_writesJournal_33 : decode cX9_writesJournal 33 = .ok (.aload_n 0, 1) := by decide +kernel
theorem dX9_writesJournal_34 : decode cX9_writesJournal 34 = .ok (.getfield 161, 3) := by decide +kernel
theorem dX9_writesJournal_37 : decode cX9_writesJournal 37 = .ok (.imul, 1) := by decide +kernel
theorem dX9_writesJournal_38 : decode cX9_writesJournal 38 = .ok (.if_icmp .ge 12, 3) := by decide +kernel
theorem dX9_writesJournal_41 : decode cX9_writesJournal 41 = .ok (.aload_n 0, 1) := by decide +kernel
theorem dX9_writesJournal_42 : decode cX9_writesJournal 42 = .ok (.getfield 78, 3) := by decide +kernel
theorem dX9_writesJournal_45 : decode cX9_writesJournal 45 = .ok (.iload_n 1, 1) := by decide +kernel
theorem dX9_writesJournal_46 : decode cX9_writesJournal 46 = .ok (.iaload, 1) := by decide +kernel
theorem dX9_writesJournal_47 : decode cX9_writesJournal 47 = .ok (.goto 4, 3) := by decide +kernel
theorem dX9_writesJournal_50 : decode cX9_writesJournal 50 = .ok (.iconst 0, 1) := by decide +kernel
theorem dX9_writesJournal_51 : decode cX9_writesJournal 51 = .ok (.iastore, 1) := by decide +kernel
theorem dX9_writesJournal_52 : decode cX9_writesJournal 52 = .ok (.iinc 1 1, 3) := by decide +kernel
theorem dX9_writesJournal_55 : decode cX9_writesJournal 55 = .ok (.goto (-41), 3) := by decide +kernel
theorem dX9_writesJournal_58 : decode cX9_writesJournal 58 = .ok (.return_, 1) := by decide +kernel
theorem dX9_states_0 : decode cX9_states 0 = .ok (.aload_n 0, 1) := by decide +kernel
theorem dX9_states_1 : decode cX9_states 1 = .ok (.invokevirtual 189, 3) := by decide +kernel
theorem dX9_states_4 : decode cX9_states 4 = .ok (.aload_n 0, 1) := by decide +kernel
theorem dX9_states_5 : decode cX9_states 5 = .ok (.iload_n 1, 1) := by decide +kernel
theorem dX9_states_6 : decode cX9_states 6 = .ok (.iload_n 2, 1) := by decide +kernel
theorem dX9_states_7 : decode cX9_states 7 = .ok (.iload_n 3, 1) := by decide +kernel
theorem dX9_states_8 : decode cX9_states 8 = .ok (.iload 4, 2) := by decide +kernel
theorem dX9_states_10 : decode cX9_states 10 = .ok (.invokevirtual 192, 3) := by decide +kernel
theorem dX9_states_13 : decode cX9_states 13 = .ok (.aload_n 0, 1) := by decide +kernel
theorem dX9_states_14 : decode cX9_states 14 = .ok (.getfield 114, 3) := by decide +kernel
theorem dX9_states_17 : decode cX9_states 17 = .ok (.ifCond .eq 9, 3) := by decide +kernel
theorem dX9_states_20 : decode cX9_states 20 = .ok (.aload_n 0, 1) := by decide +kernel
theorem dX9_states_21 : decode cX9_states 21 = .ok (.invokevirtual 195, 3) := by decide +kernel
theorem dX9_states_24 : decode cX9_states 24 = .ok (.iconst 0, 1) := by decide +kernel
theorem dX9_states_25 : decode cX9_states 25 = .ok (.ireturn, 1) := by decide +kernel
theorem dX9_states_26 : decode cX9_states 26 = .ok (.aload_n 0, 1) := by decide +kernel
theorem dX9_states_27 : decode cX9_states 27 = .ok (.invokevirtual 198, 3) := by decide +kernel
theorem dX9_states_30 : decode cX9_states 30 = .ok (.iconst 1, 1) := by decide +kernel
theorem dX9_states_31 : decode cX9_states 31 = .ok (.ireturn, 1) := by decide +kernel
theorem dX9_tries_0 : decode cX9_tries 0 = .ok (.aload_n 0, 1) := by decide +kernel
theorem dX9_tries_1 : decode cX9_tries 1 = .ok (.invokevirtual 189, 3) := by decide +kernel
theorem dX9_tries_4 : decode cX9_tries 4 = .ok (.aload_n 0, 1) := by decide +kernel
theorem dX9_tries_5 : decode cX9_tries 5 = .ok (.iload_n 1, 1) := by decide +kernel
theorem dX9_tries_6 : decode cX9_tries 6 = .ok (.iload_n 2, 1) := by decide +kernel
theorem dX9_tries_7 : decode cX9_tries 7 = .ok (.iload_n 3, 1) := by decide +kernel
theorem dX9_tries_8 : decode cX9_tries 8 = .ok (.iload 4, 2) := by decide +kernel
theorem dX9_tries_10 : decode cX9_tries 10 = .ok (.invokevirtual 192, 3) := by decide +kernel
theorem dX9_tries_13 : decode cX9_tries 13 = .ok (.aload_n 0, 1) := by decide +kernel
theorem dX9_tries_14 : decode cX9_tries 14 = .ok (.invokevirtual 195, 3) := by decide +kernel
theorem dX9_tries_17 : decode cX9_tries 17 = .ok (.aload_n 0, 1) := by decide +kernel
theorem dX9_tries_18 : decode cX9_tries 18 = .ok (.getfield 114, 3) := by decide +kernel
theorem dX9_tries_21 : decode cX9_tries 21 = .ok (.ifCond .ne 7, 3) := by decide +kernel
theorem dX9_tries_24 : decode cX9_tries 24 = .ok (.iconst 1, 1) := by decide +kernel
theorem dX9_tries_25 : decode cX9_tries 25 = .ok (.goto 4, 3) := by decide +kernel
theorem dX9_tries_28 : decode cX9_tries 28 = .ok (.iconst 0, 1) := by decide +kernel
theorem dX9_tries_29 : decode cX9_tries 29 = .ok (.ireturn, 1) := by decide +kernel
theorem dX9_refuses_0 : decode cX9_refuses 0 = .ok (.iload_n 1, 1) := by decide +kernel
theorem dX9_refuses_1 : decode cX9_refuses 1 = .ok (.invokestatic 201, 3) := by decide +kernel
theorem dX9_refuses_4 : decode cX9_refuses 4 = .ok (.ifCond .ne 5, 3) := by decide +kernel
theorem dX9_refuses_7 : decode cX9_refuses 7 = .ok (.iconst (-1), 1) := by decide +kernel
theorem dX9_refuses_8 : decode cX9_refuses 8 = .ok (.ireturn, 1) := by decide +kernel
theorem dX9_refuses_9 : decode cX9_refuses 9 = .ok (.iload_n 0, 1) := by decide +kernel
theorem dX9_refuses_10 : decode cX9_refuses 10 = .ok (.iconst 0, 1) := by decide +kernel
theorem dX9_refuses_11 : decode cX9_refuses 11 = .ok (.iconst 2, 1) := by decide +kernel
theorem dX9_refuses_12 : decode cX9_refuses 12 = .ok (.invokestatic 93, 3) := by decide +kernel
theorem dX9_refuses_15 : decode cX9_refuses 15 = .ok (.ifCond .eq 28, 3) := by decide +kernel
theorem dX9_refuses_18 : decode cX9_refuses 18 = .ok (.iload_n 2, 1) := by decide +kernel
theorem dX9_refuses_19 : decode cX9_refuses 19 = .ok (.iconst 0, 1) := by decide +kernel
theorem dX9_refuses_20 : decode cX9_refuses 20 = .ok (.bipush 99, 2) := by decide +kernel
theorem dX9_refuses_22 : decode cX9_refuses 22 = .ok (.invokestatic 93, 3) := by decide +kernel
theorem dX9_refuses_25 : decode cX9_refuses 25 = .ok (.ifCond .eq 18, 3) := by decide +kernel
theorem dX9_refuses_28 : decode cX9_refuses 28 = .ok (.iload_n 3, 1) := by decide +kernel
theorem dX9_refuses_29 : decode cX9_refuses 29 = .ok (.iconst 0, 1) := by decide +kernel
theorem dX9_refuses_30 : decode cX9_refuses 30 = .ok (.sipush 999, 3) := by decide +kernel
theorem dX9_refuses_33 : decode cX9_refuses 33 = .ok (.invokestatic 93, 3) := by decide +kernel
theorem dX9_refuses_36 : decode cX9_refuses 36 = .ok (.ifCond .eq 7, 3) := by decide +kernel
theorem dX9_refuses_39 : decode cX9_refuses 39 = .ok (.iconst 0, 1) := by decide +kernel
theorem dX9_refuses_40 : decode cX9_refuses 40 = .ok (.goto 5, 3) := by decide +kernel
theorem dX9_refuses_43 : decode cX9_refuses 43 = .ok (.bipush (-2), 2) := by decide +kernel
theorem dX9_refuses_45 : decode cX9_refuses 45 = .ok (.ireturn, 1) := by decide +kernel
theorem dX9_set_0 : decode cX9_set 0 = .ok (.aload_n 0, 1) := by decide +kernel
theorem dX9_set_1 : decode cX9_set 1 = .ok (.iconst 0, 1) := by decide +kernel
theorem dX9_set_2 : decode cX9_set 2 = .ok (.putfield 90, 3) := by decide +kernel
theorem dX9_set_5 : decode cX9_set 5 = .ok (.iload_n 1, 1) := by decide +kernel
theorem dX9_set_6 : decode cX9_set 6 = .ok (.iconst 0, 1) := by decide +kernel
theorem dX9_set_7 : decode cX9_set 7 = .ok (.iconst 1, 1) := by decide +kernel
theorem dX9_set_8 : decode cX9_set 8 = .ok (.invokestatic 93, 3) := by decide +kernel
theorem dX9_set_11 : decode cX9_set 11 = .ok (.ifCond .eq 21, 3) := by decide +kernel
theorem dX9_set_14 : decode cX9_set 14 = .ok (.iload_n 2, 1) := by decide +kernel
theorem dX9_set_15 : decode cX9_set 15 = .ok (.iconst 0, 1) := by decide +kernel
theorem dX9_set_16 : decode cX9_set 16 = .ok (.iload_n 1, 1) := by decide +kernel
theorem dX9_set_17 : decode cX9_set 17 = .ok (.ifCond .ne 8, 3) := by decide +kernel
theorem dX9_set_20 : decode cX9_set 20 = .ok (.bipush 8, 2) := by decide +kernel
theorem dX9_set_22 : decode cX9_set 22 = .ok (.goto 4, 3) := by decide +kernel
theorem dX9_set_25 : decode cX9_set 25 = .ok (.iconst 1, 1) := by decide +kernel
theorem dX9_set_26 : decode cX9_set 26 = .ok (.invokestatic 93, 3) := by decide +kernel
theorem dX9_set_29 : decode cX9_set 29 = .ok (.ifCond .ne 6, 3) := by decide +kernel
theorem dX9_set_32 : decode cX9_set 32 = .ok (.bipush (-2), 2) := by decide +kernel
theorem dX9_set_34 : decode cX9_set 34 = .ok (.ireturn, 1) := by decide +kernel
theorem dX9_set_35 : decode cX9_set 35 = .ok (.aload_n 0, 1) := by decide +kernel
theorem dX9_set_36 : decode cX9_set 36 = .ok (.invokevirtual 205, 3) := by decide +kernel
theorem dX9_set_39 : decode cX9_set 39 = .ok (.aload_n 0, 1) := by decide +kernel
theorem dX9_set_40 : decode cX9_set 40 = .ok (.getfield 7, 3) := by decide +kernel
theorem dX9_set_43 : decode cX9_set 43 = .ok (.iload_n 1, 1) := by decide +kernel
theorem dX9_set_44 : decode cX9_set 44 = .ok (.iaload, 1) := by decide +kernel
theorem dX9_set_45 : decode cX9_set 45 = .ok (.istore_n 3, 1) := by decide +kernel
theorem dX9_set_46 : decode cX9_set 46 = .ok (.aload_n 0, 1) := by decide +kernel
theorem dX9_set_47 : decode cX9_set 47 = .ok (.getfield 7, 3) := by decide +kernel
theorem dX9_set_50 : decode cX9_set 50 = .ok (.iload_n 1, 1) := by decide +kernel
theorem dX9_set_51 : decode cX9_set 51 = .ok (.iload_n 2, 1) := by decide +kernel
theorem dX9_set_52 : decode cX9_set 52 = .ok (.iastore, 1) := by decide +kernel
theorem dX9_set_53 : decode cX9_set 53 = .ok (.iload_n 3, 1) := by decide +kernel
theorem dX9_set_54 : decode cX9_set 54 = .ok (.ireturn, 1) := by decide +kernel
theorem dX9_trigger_0 : decode cX9_trigger 0 = .ok (.aload_n 0, 1) := by decide +kernel
theorem dX9_trigger_1 : decode cX9_trigger 1 = .ok (.iconst 0, 1) := by decide +kernel
theorem dX9_trigger_2 : decode cX9_trigger 2 = .ok (.putfield 90, 3) := by decide +kernel
theorem dX9_trigger_5 : decode cX9_trigger 5 = .ok (.iload_n 1, 1) := by decide +kernel
theorem dX9_trigger_6 : decode cX9_trigger 6 = .ok (.invokestatic 201, 3) := by decide +kernel
theorem dX9_trigger_9 : decode cX9_trigger 9 = .ok (.ifCond .ne 5, 3) := by decide +kernel
theorem dX9_trigger_12 : decode cX9_trigger 12 = .ok (.iconst (-1), 1) := by decide +kernel
theorem dX9_trigger_13 : decode cX9_trigger 13 = .ok (.ireturn, 1) := by decide +kernel
theorem dX9_trigger_14 : decode cX9_trigger 14 = .ok (.iload_n 2, 1) := by decide +kernel
theorem dX9_trigger_15 : decode cX9_trigger 15 = .ok (.iconst 0, 1) := by decide +kernel
theorem dX9_trigger_16 : decode cX9_trigger 16 = .ok (.iconst 2, 1) := by decide +kernel
theorem dX9_trigger_17 : decode cX9_trigger 17 = .ok (.invokestatic 93, 3) := by decide +kernel
theorem dX9_trigger_20 : decode cX9_trigger 20 = .ok (.ifCond .eq 24, 3) := by decide +kernel
theorem dX9_trigger_23 : decode cX9_trigger 23 = .ok (.iload_n 3, 1) := by decide +kernel
theorem dX9_trigger_24 : decode cX9_trigger 24 = .ok (.iconst 0, 1) := by decide +kernel
theorem dX9_trigger_25 : decode cX9_trigger 25 = .ok (.iconst 2, 1) := by decide +kernel
theorem dX9_trigger_26 : decode cX9_trigger 26 = .ok (.invokestatic 93, 3) := by decide +kernel
theorem dX9_trigger_29 : decode cX9_trigger 29 = .ok (.ifCond .eq 15, 3) := by decide +kernel
theorem dX9_trigger_32 : decode cX9_trigger 32 = .ok (.iload 4, 2) := by decide +kernel
theorem dX9_trigger_34 : decode cX9_trigger 34 = .ok (.iconst 0, 1) := by decide +kernel
theorem dX9_trigger_35 : decode cX9_trigger 35 = .ok (.sipush 999, 3) := by decide +kernel
theorem dX9_trigger_38 : decode cX9_trigger 38 = .ok (.invokestatic 93, 3) := by decide +kernel
theorem dX9_trigger_41 : decode cX9_trigger 41 = .ok (.ifCond .ne 6, 3) := by decide +kernel
theorem dX9_trigger_44 : decode cX9_trigger 44 = .ok (.bipush (-2), 2) := by decide +kernel
theorem dX9_trigger_46 : decode cX9_trigger 46 = .ok (.ireturn, 1) := by decide +kernel
theorem dX9_trigger_47 : decode cX9_trigger 47 = .ok (.aload_n 0, 1) := by decide +kernel
theorem dX9_trigger_48 : decode cX9_trigger 48 = .ok (.getfield 7, 3) := by decide +kernel
theorem dX9_trigger_51 : decode cX9_trigger 51 = .ok (.bipush 102, 2) := by decide +kernel
theorem dX9_trigger_53 : decode cX9_trigger 53 = .ok (.iaload, 1) := by decide +kernel
theorem dX9_trigger_54 : decode cX9_trigger 54 = .ok (.bipush 12, 2) := by decide +kernel
theorem dX9_trigger_56 : decode cX9_trigger 56 = .ok (.if_icmp .ne 6, 3) := by decide +kernel
theorem dX9_trigger_59 : decode cX9_trigger 59 = .ok (.bipush (-4), 2) := by decide +kernel
theorem dX9_trigger_61 : decode cX9_trigger 61 = .ok (.ireturn, 1) := by decide +kernel
theorem dX9_trigger_62 : decode cX9_trigger 62 = .ok (.aload_n 0, 1) := by decide +kernel
theorem dX9_trigger_63 : decode cX9_trigger 63 = .ok (.invokevirtual 205, 3) := by decide +kernel
theorem dX9_trigger_66 : decode cX9_trigger 66 = .ok (.bipush 103, 2) := by decide +kernel
theorem dX9_trigger_68 : decode cX9_trigger 68 = .ok (.bipush 8, 2) := by decide +kernel
theorem dX9_trigger_70 : decode cX9_trigger 70 = .ok (.aload_n 0, 1) := by decide +kernel
theorem dX9_trigger_71 : decode cX9_trigger 71 = .ok (.getfield 7, 3) := by decide +kernel
theorem dX9_trigger_74 : decode cX9_trigger 74 = .ok (.bipush 102, 2) := by decide +kernel
theorem dX9_trigger_76 : decode cX9_trigger 76 = .ok (.iaload, 1) := by decide +kernel
theorem dX9_trigger_77 : decode cX9_trigger 77 = .ok (.imul, 1) := by decide +kernel
theorem dX9_trigger_78 : decode cX9_trigger 78 = .ok (.iadd, 1) := by decide +kernel
theorem dX9_trigger_79 : decode cX9_trigger 79 = .ok (.istore 5, 2) := by decide +kernel
theorem dX9_trigger_81 : decode cX9_trigger 81 = .ok (.aload_n 0, 1) := by decide +kernel
theorem dX9_trigger_82 : decode cX9_trigger 82 = .ok (.getfield 7, 3) := by decide +kernel
theorem dX9_trigger_85 : decode cX9_trigger 85 = .ok (.iload 5, 2) := by decide +kernel
theorem dX9_trigger_87 : decode cX9_trigger 87 = .ok (.iconst 0, 1) := by decide +kernel
theorem dX9_trigger_88 : decode cX9_trigger 88 = .ok (.iadd, 1) := by decide +kernel
theorem dX9_trigger_89 : decode cX9_trigger 89 = .ok (.iload_n 1, 1) := by decide +kernel
theorem dX9_trigger_90 : decode cX9_trigger 90 = .ok (.iastore, 1) := by decide +kernel
theorem dX9_trigger_91 : decode cX9_trigger 91 = .ok (.aload_n 0, 1) := by decide +kernel
theorem dX9_trigger_92 : decode cX9_trigger 92 = .ok (.getfield 7, 3) := by decide +kernel
theorem dX9_trigger_95 : decode cX9_trigger 95 = .ok (.iload 5, 2) := by decide +kernel
theorem dX9_trigger_97 : decode cX9_trigger 97 = .ok (.iconst 1, 1) := by decide +kernel
theorem dX9_trigger_98 : decode cX9_trigger 98 = .ok (.iadd, 1) := by decide +kernel
theorem dX9_trigger_99 : decode cX9_trigger 99 = .ok (.iload_n 2, 1) := by decide +kernel
theorem dX9_trigger_100 : decode cX9_trigger 100 = .ok (.iastore, 1) := by decide +kernel
theorem dX9_trigger_101 : decode cX9_trigger 101 = .ok (.aload_n 0, 1) := by decide +kernel
theorem dX9_trigger_102 : decode cX9_trigger 102 = .ok (.getfield 7, 3) := by decide +kernel
theorem dX9_trigger_105 : decode cX9_trigger 105 = .ok (.iload 5, 2) := by decide +kernel
theorem dX9_trigger_107 : decode cX9_trigger 107 = .ok (.iconst 2, 1) := by decide +kernel
theorem dX9_trigger_108 : decode cX9_trigger 108 = .ok (.iadd, 1) := by decide +kernel
theorem dX9_trigger_109 : decode cX9_trigger 109 = .ok (.iload_n 3, 1) := by decide +kernel
theorem dX9_trigger_110 : decode cX9_trigger 110 = .ok (.iastore, 1) := by decide +kernel
theorem dX9_trigger_111 : decode cX9_trigger 111 = .ok (.aload_n 0, 1) := by decide +kernel
theorem dX9_trigger_112 : decode cX9_trigger 112 = .ok (.getfield 7, 3) := by decide +kernel
theorem dX9_trigger_115 : decode cX9_trigger 115 = .ok (.iload 5, 2) := by decide +kernel
theorem dX9_trigger_117 : decode cX9_trigger 117 = .ok (.iconst 3, 1) := by decide +kernel
theorem dX9_trigger_118 : decode cX9_trigger 118 = .ok (.iadd, 1) := by decide +kernel
theorem dX9_trigger_119 : decode cX9_trigger 119 = .ok (.iload 4, 2) := by decide +kernel
theorem dX9_trigger_121 : decode cX9_trigger 121 = .ok (.iastore, 1) := by decide +kernel
theorem dX9_trigger_122 : decode cX9_trigger 122 = .ok (.aload_n 0, 1) := by decide +kernel
theorem dX9_trigger_123 : decode cX9_trigger 123 = .ok (.getfield 7, 3) := by decide +kernel
theorem dX9_trigger_126 : decode cX9_trigger 126 = .ok (.bipush 102, 2) := by decide +kernel
theorem dX9_trigger_128 : decode cX9_trigger 128 = .ok (.dup2, 1) := by decide +kernel
theorem dX9_trigger_129 : decode cX9_trigger 129 = .ok (.iaload, 1) := by decide +kernel
theorem dX9_trigger_130 : decode cX9_trigger 130 = .ok (.iconst 1, 1) := by decide +kernel
theorem dX9_trigger_131 : decode cX9_trigger 131 = .ok (.iadd, 1) := by decide +kernel
theorem dX9_trigger_132 : decode cX9_trigger 132 = .ok (.iastore, 1) := by decide +kernel
theorem dX9_trigger_133 : decode cX9_trigger 133 = .ok (.aload_n 0, 1) := by decide +kernel
theorem dX9_trigger_134 : decode cX9_trigger 134 = .ok (.getfield 7, 3) := by decide +kernel
theorem dX9_trigger_137 : decode cX9_trigger 137 = .ok (.bipush 102, 2) := by decide +kernel
theorem dX9_trigger_139 : decode cX9_trigger 139 = .ok (.iaload, 1) := by decide +kernel
theorem dX9_trigger_140 : decode cX9_trigger 140 = .ok (.iconst 1, 1) := by decide +kernel
theorem dX9_trigger_141 : decode cX9_trigger 141 = .ok (.isub, 1) := by decide +kernel
theorem dX9_trigger_142 : decode cX9_trigger 142 = .ok (.ireturn, 1) := by decide +kernel
theorem dX9_deed_0 : decode cX9_deed 0 = .ok (.aload_n 0, 1) := by decide +kernel
theorem dX9_deed_1 : decode cX9_deed 1 = .ok (.iconst 0, 1) := by decide +kernel
theorem dX9_deed_2 : decode cX9_deed 2 = .ok (.putfield 90, 3) := by decide +kernel
theorem dX9_deed_5 : decode cX9_deed 5 = .ok (.aload_n 0, 1) := by decide +kernel
theorem dX9_deed_6 : decode cX9_deed 6 = .ok (.iload_n 1, 1) := by decide +kernel
theorem dX9_deed_7 : decode cX9_deed 7 = .ok (.invokevirtual 208, 3) := by decide +kernel
theorem dX9_deed_10 : decode cX9_deed 10 = .ok (.ifCond .eq 10, 3) := by decide +kernel
theorem dX9_deed_13 : decode cX9_deed 13 = .ok (.iload_n 3, 1) := by decide +kernel
theorem dX9_deed_14 : decode cX9_deed 14 = .ok (.invokestatic 201, 3) := by decide +kernel
theorem dX9_deed_17 : decode cX9_deed 17 = .ok (.ifCond .ne 5, 3) := by decide +kernel
theorem dX9_deed_20 : decode cX9_deed 20 = .ok (.iconst (-1), 1) := by decide +kernel
theorem dX9_deed_21 : decode cX9_deed 21 = .ok (.ireturn, 1) := by decide +kernel
theorem dX9_deed_22 : decode cX9_deed 22 = .ok (.iload_n 2, 1) := by decide +kernel
theorem dX9_deed_23 : decode cX9_deed 23 = .ok (.iconst 0, 1) := by decide +kernel
theorem dX9_deed_24 : decode cX9_deed 24 = .ok (.iconst 3, 1) := by decide +kernel
theorem dX9_deed_25 : decode cX9_deed 25 = .ok (.invokestatic 93, 3) := by decide +kernel
theorem dX9_deed_28 : decode cX9_deed 28 = .ok (.ifCond .eq 26, 3) := by decide +kernel
theorem dX9_deed_31 : decode cX9_deed 31 = .ok (.iload 4, 2) := by decide +kernel
theorem dX9_deed_33 : decode cX9_deed 33 = .ok (.iconst 0, 1) := by decide +kernel
theorem dX9_deed_34 : decode cX9_deed 34 = .ok (.bipush 99, 2) := by decide +kernel
theorem dX9_deed_36 : decode cX9_deed 36 = .ok (.invokestatic 93, 3) := by decide +kernel
theorem dX9_deed_39 : decode cX9_deed 39 = .ok (.ifCond .eq 15, 3) := by decide +kernel
theorem dX9_deed_42 : decode cX9_deed 42 = .ok (.iload 5, 2) := by decide +kernel
theorem dX9_deed_44 : decode cX9_deed 44 = .ok (.iconst 0, 1) := by decide +kernel
theorem dX9_deed_45 : decode cX9_deed 45 = .ok (.sipush 999, 3) := by decide +kernel
theorem dX9_deed_48 : decode cX9_deed 48 = .ok (.invokestatic 93, 3) := by decide +kernel
theorem dX9_deed_51 : decode cX9_deed 51 = .ok (.ifCond .ne 6, 3) := by decide +kernel
theorem dX9_deed_54 : decode cX9_deed 54 = .ok (.bipush (-2), 2) := by decide +kernel
theorem dX9_deed_56 : decode cX9_deed 56 = .ok (.ireturn, 1) := by decide +kernel
theorem dX9_deed_57 : decode cX9_deed 57 = .ok (.aload_n 0, 1) := by decide +kernel
theorem dX9_deed_58 : decode cX9_deed 58 = .ok (.invokevirtual 205, 3) := by decide +kernel
theorem dX9_deed_61 : decode cX9_deed 61 = .ok (.aload_n 0, 1) := by decide +kernel
theorem dX9_deed_62 : decode cX9_deed 62 = .ok (.iload_n 1, 1) := by decide +kernel
theorem dX9_deed_63 : decode cX9_deed 63 = .ok (.iconst 4, 1) := by decide +kernel
theorem dX9_deed_64 : decode cX9_deed 64 = .ok (.invokevirtual 146, 3) := by decide +kernel
theorem dX9_deed_67 : decode cX9_deed 67 = .ok (.istore 6, 2) := by decide +kernel
theorem dX9_deed_69 : decode cX9_deed 69 = .ok (.bipush 103, 2) := by decide +kernel
theorem dX9_deed_71 : decode cX9_deed 71 = .ok (.bipush 8, 2) := by decide +kernel
theorem dX9_deed_73 : decode cX9_deed 73 = .ok (.iload_n 1, 1) := by decide +kernel
theorem dX9_deed_74 : decode cX9_deed 74 = .ok (.imul, 1) := by decide +kernel
theorem dX9_deed_75 : decode cX9_deed 75 = .ok (.iadd, 1) := by decide +kernel
theorem dX9_deed_76 : decode cX9_deed 76 = .ok (.istore 7, 2) := by decide +kernel
theorem dX9_deed_78 : decode cX9_deed 78 = .ok (.aload_n 0, 1) := by decide +kernel
theorem dX9_deed_79 : decode cX9_deed 79 = .ok (.getfield 7, 3) := by decide +kernel
theorem dX9_deed_82 : decode cX9_deed 82 = .ok (.iload 7, 2) := by decide +kernel
theorem dX9_deed_84 : decode cX9_deed 84 = .ok (.iconst 4, 1) := by decide +kernel
theorem dX9_deed_85 : decode cX9_deed 85 = .ok (.iadd, 1) := by decide +kernel
theorem dX9_deed_86 : decode cX9_deed 86 = .ok (.iload_n 2, 1) := by decide +kernel
theorem dX9_deed_87 : decode cX9_deed 87 = .ok (.iastore, 1) := by decide +kernel
theorem dX9_deed_88 : decode cX9_deed 88 = .ok (.aload_n 0, 1) := by decide +kernel
theorem dX9_deed_89 : decode cX9_deed 89 = .ok (.getfield 7, 3) := by decide +kernel
theorem dX9_deed_92 : decode cX9_deed 92 = .ok (.iload 7, 2) := by decide +kernel
theorem dX9_deed_94 : decode cX9_deed 94 = .ok (.iconst 5, 1) := by decide +kernel
theorem dX9_deed_95 : decode cX9_deed 95 = .ok (.iadd, 1) := by decide +kernel
theorem dX9_deed_96 : decode cX9_deed 96 = .ok (.iload_n 3, 1) := by decide +kernel
theorem dX9_deed_97 : decode cX9_deed 97 = .ok (.iastore, 1) := by decide +kernel
theorem dX9_deed_98 : decode cX9_deed 98 = .ok (.aload_n 0, 1) := by decide +kernel
theorem dX9_deed_99 : decode cX9_deed 99 = .ok (.getfield 7, 3) := by decide +kernel
theorem dX9_deed_102 : decode cX9_deed 102 = .ok (.iload 7, 2) := by decide +kernel
theorem dX9_deed_104 : decode cX9_deed 104 = .ok (.bipush 6, 2) := by decide +kernel
theorem dX9_deed_106 : decode cX9_deed 106 = .ok (.iadd, 1) := by decide +kernel
theorem dX9_deed_107 : decode cX9_deed 107 = .ok (.iload 4, 2) := by decide +kernel
theorem dX9_deed_109 : decode cX9_deed 109 = .ok (.iastore, 1) := by decide +kernel
theorem dX9_deed_110 : decode cX9_deed 110 = .ok (.aload_n 0, 1) := by decide +kernel
theorem dX9_deed_111 : decode cX9_deed 111 = .ok (.getfield 7, 3) := by decide +kernel
theorem dX9_deed_114 : decode cX9_deed 114 = .ok (.iload 7, 2) := by decide +kernel
theorem dX9_deed_116 : decode cX9_deed 116 = .ok (.bipush 7, 2) := by decide +kernel
theorem dX9_deed_118 : decode cX9_deed 118 = .ok (.iadd, 1) := by decide +kernel
theorem dX9_deed_119 : decode cX9_deed 119 = .ok (.iload 5, 2) := by decide +kernel
theorem dX9_deed_121 : decode cX9_deed 121 = .ok (.iastore, 1) := by decide +kernel
theorem dX9_deed_122 : decode cX9_deed 122 = .ok (.iload 6, 2) := by decide +kernel
theorem dX9_deed_124 : decode cX9_deed 124 = .ok (.ireturn, 1) := by decide +kernel
theorem dX9_dropTrigger_0 : decode cX9_dropTrigger 0 = .ok (.aload_n 0, 1) := by decide +kernel
theorem dX9_dropTrigger_1 : decode cX9_dropTrigger 1 = .ok (.iconst 0, 1) := by decide +kernel
theorem dX9_dropTrigger_2 : decode cX9_dropTrigger 2 = .ok (.putfield 90, 3) := by decide +kernel
theorem dX9_dropTrigger_5 : decode cX9_dropTrigger 5 = .ok (.aload_n 0, 1) := by decide +kernel
theorem dX9_dropTrigger_6 : decode cX9_dropTrigger 6 = .ok (.iload_n 1, 1) := by decide +kernel
theorem dX9_dropTrigger_7 : decode cX9_dropTrigger 7 = .ok (.invokevirtual 208, 3) := by decide +kernel
theorem dX9_dropTrigger_10 : decode cX9_dropTrigger 10 = .ok (.ifCond .ne 5, 3) := by decide +kernel
theorem dX9_dropTrigger_13 : decode cX9_dropTrigger 13 = .ok (.iconst (-1), 1) := by decide +kernel
theorem dX9_dropTrigger_14 : decode cX9_dropTrigger 14 = .ok (.ireturn, 1) := by decide +kernel
theorem dX9_dropTrigger_15 : decode cX9_dropTrigger 15 = .ok (.aload_n 0, 1) := by decide +kernel
theorem dX9_dropTrigger_16 : decode cX9_dropTrigger 16 = .ok (.invokevirtual 205, 3) := by decide +kernel
theorem dX9_dropTrigger_19 : decode cX9_dropTrigger 19 = .ok (.bipush 103, 2) := by decide +kernel
theorem dX9_dropTrigger_21 : decode cX9_dropTrigger 21 = .ok (.bipush 8, 2) := by decide +kernel
theorem dX9_dropTrigger_23 : decode cX9_dropTrigger 23 = .ok (.aload_n 0, 1) := by decide +kernel
theorem dX9_dropTrigger_24 : decode cX9_dropTrigger 24 = .ok (.getfield 7, 3) := by decide +kernel
theorem dX9_dropTrigger_27 : decode cX9_dropTrigger 27 = .ok (.bipush 102, 2) := by decide +kernel
theorem dX9_dropTrigger_29 : decode cX9_dropTrigger 29 = .ok (.iaload, 1) := by decide +kernel
theorem dX9_dropTrigger_30 : decode cX9_dropTrigger 30 = .ok (.iconst 1, 1) := by decide +kernel
theorem dX9_dropTrigger_31 : decode cX9_dropTrigger 31 = .ok (.isub, 1) := by decide +kernel
theorem dX9_dropTrigger_32 : decode cX9_dropTrigger 32 = .ok (.imul, 1) := by decide +kernel
theorem dX9_dropTrigger_33 : decode cX9_dropTrigger 33 = .ok (.iadd, 1) := by decide +kernel
theorem dX9_dropTrigger_34 : decode cX9_dropTrigger 34 = .ok (.istore_n 2, 1) := by decide +kernel
theorem dX9_dropTrigger_35 : decode cX9_dropTrigger 35 = .ok (.bipush 103, 2) := by decide +kernel
theorem dX9_dropTrigger_37 : decode cX9_dropTrigger 37 = .ok (.bipush 8, 2) := by decide +kernel
theorem dX9_dropTrigger_39 : decode cX9_dropTrigger 39 = .ok (.iload_n 1, 1) := by decide +kernel
theorem dX9_dropTrigger_40 : decode cX9_dropTrigger 40 = .ok (.imul, 1) := by decide +kernel
theorem dX9_dropTrigger_41 : decode cX9_dropTrigger 41 = .ok (.iadd, 1) := by decide +kernel
theorem dX9_dropTrigger_42 : decode cX9_dropTrigger 42 = .ok (.istore_n 3, 1) := by decide +kernel
theorem dX9_dropTrigger_43 : decode cX9_dropTrigger 43 = .ok (.iload_n 3, 1) := by decide +kernel
theorem dX9_dropTrigger_44 : decode cX9_dropTrigger 44 = .ok (.iload_n 2, 1) := by decide +kernel
theorem dX9_dropTrigger_45 : decode cX9_dropTrigger 45 = .ok (.if_icmp .ge 24, 3) := by decide +kernel
theorem dX9_dropTrigger_48 : decode cX9_dropTrigger 48 = .ok (.aload_n 0, 1) := by decide +kernel
theorem dX9_dropTrigger_49 : decode cX9_dropTrigger 49 = .ok (.getfield 7, 3) := by decide +kernel
theorem dX9_dropTrigger_52 : decode cX9_dropTrigger 52 = .ok (.iload_n 3, 1) := by decide +kernel
theorem dX9_dropTrigger_53 : decode cX9_dropTrigger 53 = .ok (.aload_n 0, 1) := by decide +kernel
theorem dX9_dropTrigger_54 : decode cX9_dropTrigger 54 = .ok (.getfield 7, 3) := by decide +kernel
theorem dX9_dropTrigger_57 : decode cX9_dropTrigger 57 = .ok (.iload_n 3, 1) := by decide +kernel
theorem dX9_dropTrigger_58 : decode cX9_dropTrigger 58 = .ok (.bipush 8, 2) := by decide +kernel
theorem dX9_dropTrigger_60 : decode cX9_dropTrigger 60 = .ok (.iadd, 1) := by decide +kernel
theorem dX9_dropTrigger_61 : decode cX9_dropTrigger 61 = .ok (.iaload, 1) := by decide +kernel
theorem dX9_dropTrigger_62 : decode cX9_dropTrigger 62 = .ok (.iastore, 1) := by decide +kernel
theorem dX9_dropTrigger_63 : decode cX9_dropTrigger 63 = .ok (.iinc 3 1, 3) := by decide +kernel
theorem dX9_dropTrigger_66 : decode cX9_dropTrigger 66 = .ok (.goto (-23), 3) := by decide +kernel
theorem dX9_dropTrigger_69 : decode cX9_dropTrigger 69 = .ok (.iconst 0, 1) := by decide +kernel
theorem dX9_dropTrigger_70 : decode cX9_dropTrigger 70 = .ok (.istore_n 3, 1) := by decide +kernel
theorem dX9_dropTrigger_71 : decode cX9_dropTrigger 71 = .ok (.iload_n 3, 1) := by decide +kernel
theorem dX9_dropTrigger_72 : decode cX9_dropTrigger 72 = .ok (.bipush 8, 2) := by decide +kernel
theorem dX9_dropTrigger_74 : decode cX9_dropTrigger 74 = .ok (.if_icmp .ge 18, 3) := by decide +kernel
theorem dX9_dropTrigger_77 : decode cX9_dropTrigger 77 = .ok (.aload_n 0, 1) := by decide +kernel
theorem dX9_dropTrigger_78 : decode cX9_dropTrigger 78 = .ok (.getfield 7, 3) := by decide +kernel
theorem dX9_dropTrigger_81 : decode cX9_dropTrigger 81 = .ok (.iload_n 2, 1) := by decide +kernel
theorem dX9_dropTrigger_82 : decode cX9_dropTrigger 82 = .ok (.iload_n 3, 1) := by decide +kernel
theorem dX9_dropTrigger_83 : decode cX9_dropTrigger 83 = .ok (.iadd, 1) := by decide +kernel
theorem dX9_dropTrigger_84 : decode cX9_dropTrigger 84 = .ok (.iconst 0, 1) := by decide +kernel
theorem dX9_dropTrigger_85 : decode cX9_dropTrigger 85 = .ok (.iastore, 1) := by decide +kernel
theorem dX9_dropTrigger_86 : decode cX9_dropTrigger 86 = .ok (.iinc 3 1, 3) := by decide +kernel
theorem dX9_dropTrigger_89 : decode cX9_dropTrigger 89 = .ok (.goto (-18), 3) := by decide +kernel
theorem dX9_dropTrigger_92 : decode cX9_dropTrigger 92 = .ok (.aload_n 0, 1) := by decide +kernel
theorem dX9_dropTrigger_93 : decode cX9_dropTrigger 93 = .ok (.getfield 7, 3) := by decide +kernel
theorem dX9_dropTrigger_96 : decode cX9_dropTrigger 96 = .ok (.bipush 102, 2) := by decide +kernel
theorem dX9_dropTrigger_98 : decode cX9_dropTrigger 98 = .ok (.dup2, 1) := by decide +kernel
theorem dX9_dropTrigger_99 : decode cX9_dropTrigger 99 = .ok (.iaload, 1) := by decide +kernel
theorem dX9_dropTrigger_100 : decode cX9_dropTrigger 100 = .ok (.iconst 1, 1) := by decide +kernel
theorem dX9_dropTrigger_101 : decode cX9_dropTrigger 101 = .ok (.isub, 1) := by decide +kernel
theorem dX9_dropTrigger_102 : decode cX9_dropTrigger 102 = .ok (.iastore, 1) := by decide +kernel
theorem dX9_dropTrigger_103 : decode cX9_dropTrigger 103 = .ok (.aload_n 0, 1) := by decide +kernel
theorem dX9_dropTrigger_104 : decode cX9_dropTrigger 104 = .ok (.getfield 7, 3) := by decide +kernel
theorem dX9_dropTrigger_107 : decode cX9_dropTrigger 107 = .ok (.bipush 102, 2) := by decide +kernel
theorem dX9_dropTrigger_109 : decode cX9_dropTrigger 109 = .ok (.iaload, 1) := by decide +kernel
theorem dX9_dropTrigger_110 : decode cX9_dropTrigger 110 = .ok (.ireturn, 1) := by decide +kernel
theorem dX9_state_0 : decode cX9_state 0 = .ok (.aload_n 0, 1) := by decide +kernel
theorem dX9_state_1 : decode cX9_state 1 = .ok (.iconst 0, 1) := by decide +kernel
theorem dX9_state_2 : decode cX9_state 2 = .ok (.putfield 90, 3) := by decide +kernel
theorem dX9_state_5 : decode cX9_state 5 = .ok (.iload_n 1, 1) := by decide +kernel
theorem dX9_state_6 : decode cX9_state 6 = .ok (.iload_n 2, 1) := by decide +kernel
theorem dX9_state_7 : decode cX9_state 7 = .ok (.iload_n 3, 1) := by decide +kernel
theorem dX9_state_8 : decode cX9_state 8 = .ok (.iload 4, 2) := by decide +kernel
theorem dX9_state_10 : decode cX9_state 10 = .ok (.invokestatic 211, 3) := by decide +kernel
theorem dX9_state_13 : decode cX9_state 13 = .ok (.istore 5, 2) := by decide +kernel
theorem dX9_state_15 : decode cX9_state 15 = .ok (.iload 5, 2) := by decide +kernel
theorem dX9_state_17 : decode cX9_state 17 = .ok (.ifCond .eq 6, 3) := by decide +kernel
theorem dX9_state_20 : decode cX9_state 20 = .ok (.iload 5, 2) := by decide +kernel
theorem dX9_state_22 : decode cX9_state 22 = .ok (.ireturn, 1) := by decide +kernel
theorem dX9_state_23 : decode cX9_state 23 = .ok (.aload_n 0, 1) := by decide +kernel
theorem dX9_state_24 : decode cX9_state 24 = .ok (.iload_n 1, 1) := by decide +kernel
theorem dX9_state_25 : decode cX9_state 25 = .ok (.iload_n 2, 1) := by decide +kernel
theorem dX9_state_26 : decode cX9_state 26 = .ok (.iload_n 3, 1) := by decide +kernel
theorem dX9_state_27 : decode cX9_state 27 = .ok (.iload 4, 2) := by decide +kernel
theorem dX9_state_29 : decode cX9_state 29 = .ok (.invokevirtual 215, 3) := by decide +kernel
theorem dX9_state_32 : decode cX9_state 32 = .ok (.ifCond .ne 6, 3) := by decide +kernel
theorem dX9_state_35 : decode cX9_state 35 = .ok (.bipush (-5), 2) := by decide +kernel
theorem dX9_state_37 : decode cX9_state 37 = .ok (.ireturn, 1) := by decide +kernel
theorem dX9_state_38 : decode cX9_state 38 = .ok (.aload_n 0, 1) := by decide +kernel
theorem dX9_state_39 : decode cX9_state 39 = .ok (.invokevirtual 205, 3) := by decide +kernel
theorem dX9_state_42 : decode cX9_state 42 = .ok (.aload_n 0, 1) := by decide +kernel
theorem dX9_state_43 : decode cX9_state 43 = .ok (.iload_n 1, 1) := by decide +kernel
theorem dX9_state_44 : decode cX9_state 44 = .ok (.iload_n 2, 1) := by decide +kernel
theorem dX9_state_45 : decode cX9_state 45 = .ok (.iload_n 3, 1) := by decide +kernel
theorem dX9_state_46 : decode cX9_state 46 = .ok (.iload 4, 2) := by decide +kernel
theorem dX9_state_48 : decode cX9_state 48 = .ok (.invokevirtual 218, 3) := by decide +kernel
theorem dX9_state_51 : decode cX9_state 51 = .ok (.pop, 1) := by decide +kernel
theorem dX9_state_52 : decode cX9_state 52 = .ok (.aload_n 0, 1) := by decide +kernel
theorem dX9_state_53 : decode cX9_state 53 = .ok (.getfield 161, 3) := by decide +kernel
theorem dX9_state_56 : decode cX9_state 56 = .ok (.ireturn, 1) := by decide +kernel
theorem dX9_tried_0 : decode cX9_tried 0 = .ok (.aload_n 0, 1) := by decide +kernel
theorem dX9_tried_1 : decode cX9_tried 1 = .ok (.iconst 0, 1) := by decide +kernel
theorem dX9_tried_2 : decode cX9_tried 2 = .ok (.putfield 90, 3) := by decide +kernel
theorem dX9_tried_5 : decode cX9_tried 5 = .ok (.iload_n 1, 1) := by decide +kernel
theorem dX9_tried_6 : decode cX9_tried 6 = .ok (.iload_n 2, 1) := by decide +kernel
theorem dX9_tried_7 : decode cX9_tried 7 = .ok (.iload_n 3, 1) := by decide +kernel
theorem dX9_tried_8 : decode cX9_tried 8 = .ok (.iload 4, 2) := by decide +kernel
theorem dX9_tried_10 : decode cX9_tried 10 = .ok (.invokestatic 211, 3) := by decide +kernel
theorem dX9_tried_13 : decode cX9_tried 13 = .ok (.istore 6, 2) := by decide +kernel
theorem dX9_tried_15 : decode cX9_tried 15 = .ok (.iload 6, 2) := by decide +kernel
theorem dX9_tried_17 : decode cX9_tried 17 = .ok (.ifCond .eq 6, 3) := by decide +kernel
theorem dX9_tried_20 : decode cX9_tried 20 = .ok (.iload 6, 2) := by decide +kernel
theorem dX9_tried_22 : decode cX9_tried 22 = .ok (.ireturn, 1) := by decide +kernel
theorem dX9_tried_23 : decode cX9_tried 23 = .ok (.iload 5, 2) := by decide +kernel
theorem dX9_tried_25 : decode cX9_tried 25 = .ok (.iconst 0, 1) := by decide +kernel
theorem dX9_tried_26 : decode cX9_tried 26 = .ok (.bipush 20, 2) := by decide +kernel
theorem dX9_tried_28 : decode cX9_tried 28 = .ok (.invokestatic 93, 3) := by decide +kernel
theorem dX9_tried_31 : decode cX9_tried 31 = .ok (.ifCond .ne 6, 3) := by decide +kernel
theorem dX9_tried_34 : decode cX9_tried 34 = .ok (.bipush (-2), 2) := by decide +kernel
theorem dX9_tried_36 : decode cX9_tried 36 = .ok (.ireturn, 1) := by decide +kernel
theorem dX9_tried_37 : decode cX9_tried 37 = .ok (.aload_n 0, 1) := by decide +kernel
theorem dX9_tried_38 : decode cX9_tried 38 = .ok (.iload_n 1, 1) := by decide +kernel
theorem dX9_tried_39 : decode cX9_tried 39 = .ok (.iload_n 2, 1) := by decide +kernel
theorem dX9_tried_40 : decode cX9_tried 40 = .ok (.iload_n 3, 1) := by decide +kernel
theorem dX9_tried_41 : decode cX9_tried 41 = .ok (.iload 4, 2) := by decide +kernel
theorem dX9_tried_43 : decode cX9_tried 43 = .ok (.invokevirtual 215, 3) := by decide +kernel
theorem dX9_tried_46 : decode cX9_tried 46 = .ok (.istore 7, 2) := by decide +kernel
theorem dX9_tried_48 : decode cX9_tried 48 = .ok (.iload 5, 2) := by decide +kernel
theorem dX9_tried_50 : decode cX9_tried 50 = .ok (.tableswitch 115 0 7 #[46, 51, 65, 70, 75, 80, 95, 110], 46) := by decide +kernel
theorem dX9_tried_96 : decode cX9_tried 96 = .ok (.aload_n 0, 1) := by decide +kernel
theorem dX9_tried_97 : decode cX9_tried 97 = .ok (.getfield 114, 3) := by decide +kernel
theorem dX9_tried_100 : decode cX9_tried 100 = .ok (.ireturn, 1) := by decide +kernel
theorem dX9_tried_101 : decode cX9_tried 101 = .ok (.iload 7, 2) := by decide +kernel
theorem dX9_tried_103 : decode cX9_tried 103 = .ok (.ifCond .eq 10, 3) := by decide +kernel
theorem dX9_tried_106 : decode cX9_tried 106 = .ok (.aload_n 0, 1) := by decide +kernel
theorem dX9_tried_107 : decode cX9_tried 107 = .ok (.getfield 161, 3) := by decide +kernel
theorem dX9_tried_110 : decode cX9_tried 110 = .ok (.goto 4, 3) := by decide +kernel
theorem dX9_tried_113 : decode cX9_tried 113 = .ok (.iconst 0, 1) := by decide +kernel
theorem dX9_tried_114 : decode cX9_tried 114 = .ok (.ireturn, 1) := by decide +kernel
theorem dX9_tried_115 : decode cX9_tried 115 = .ok (.aload_n 0, 1) := by decide +kernel
theorem dX9_tried_116 : decode cX9_tried 116 = .ok (.getfield 130, 3) := by decide +kernel
theorem dX9_tried_119 : decode cX9_tried 119 = .ok (.ireturn, 1) := by decide +kernel
theorem dX9_tried_120 : decode cX9_tried 120 = .ok (.aload_n 0, 1) := by decide +kernel
theorem dX9_tried_121 : decode cX9_tried 121 = .ok (.getfield 140, 3) := by decide +kernel
theorem dX9_tried_124 : decode cX9_tried 124 = .ok (.ireturn, 1) := by decide +kernel
theorem dX9_tried_125 : decode cX9_tried 125 = .ok (.aload_n 0, 1) := by decide +kernel
theorem dX9_tried_126 : decode cX9_tried 126 = .ok (.getfield 133, 3) := by decide +kernel
theorem dX9_tried_129 : decode cX9_tried 129 = .ok (.ireturn, 1) := by decide +kernel
theorem dX9_tried_130 : decode cX9_tried 130 = .ok (.iload 7, 2) := by decide +kernel
theorem dX9_tried_132 : decode cX9_tried 132 = .ok (.ifCond .eq 8, 3) := by decide +kernel
theorem dX9_tried_135 : decode cX9_tried 135 = .ok (.bipush (-6), 2) := by decide +kernel
theorem dX9_tried_137 : decode cX9_tried 137 = .ok (.goto 7, 3) := by decide +kernel
theorem dX9_tried_140 : decode cX9_tried 140 = .ok (.aload_n 0, 1) := by decide +kernel
theorem dX9_tried_141 : decode cX9_tried 141 = .ok (.getfield 117, 3) := by decide +kernel
theorem dX9_tried_144 : decode cX9_tried 144 = .ok (.ireturn, 1) := by decide +kernel
theorem dX9_tried_145 : decode cX9_tried 145 = .ok (.iload 7, 2) := by decide +kernel
theorem dX9_tried_147 : decode cX9_tried 147 = .ok (.ifCond .eq 8, 3) := by decide +kernel
theorem dX9_tried_150 : decode cX9_tried 150 = .ok (.bipush (-6), 2) := by decide +kernel
theorem dX9_tried_152 : decode cX9_tried 152 = .ok (.goto 7, 3) := by decide +kernel
theorem dX9_tried_155 : decode cX9_tried 155 = .ok (.aload_n 0, 1) := by decide +kernel
theorem dX9_tried_156 : decode cX9_tried 156 = .ok (.getfield 120, 3) := by decide +kernel
theorem dX9_tried_159 : decode cX9_tried 159 = .ok (.ireturn, 1) := by decide +kernel
theorem dX9_tried_160 : decode cX9_tried 160 = .ok (.aload_n 0, 1) := by decide +kernel
theorem dX9_tried_161 : decode cX9_tried 161 = .ok (.getfield 123, 3) := by decide +kernel
theorem dX9_tried_164 : decode cX9_tried 164 = .ok (.ireturn, 1) := by decide +kernel
theorem dX9_tried_165 : decode cX9_tried 165 = .ok (.iload 5, 2) := by decide +kernel
theorem dX9_tried_167 : decode cX9_tried 167 = .ok (.bipush 8, 2) := by decide +kernel
theorem dX9_tried_169 : decode cX9_tried 169 = .ok (.isub, 1) := by decide +kernel
theorem dX9_tried_170 : decode cX9_tried 170 = .ok (.aload_n 0, 1) := by decide +kernel
theorem dX9_tried_171 : decode cX9_tried 171 = .ok (.getfield 123, 3) := by decide +kernel
theorem dX9_tried_174 : decode cX9_tried 174 = .ok (.if_icmp .ge 16, 3) := by decide +kernel
theorem dX9_tried_177 : decode cX9_tried 177 = .ok (.aload_n 0, 1) := by decide +kernel
theorem dX9_tried_178 : decode cX9_tried 178 = .ok (.getfield 29, 3) := by decide +kernel
theorem dX9_tried_181 : decode cX9_tried 181 = .ok (.iload 5, 2) := by decide +kernel
theorem dX9_tried_183 : decode cX9_tried 183 = .ok (.bipush 8, 2) := by decide +kernel
theorem dX9_tried_185 : decode cX9_tried 185 = .ok (.isub, 1) := by decide +kernel
theorem dX9_tried_186 : decode cX9_tried 186 = .ok (.iaload, 1) := by decide +kernel
theorem dX9_tried_187 : decode cX9_tried 187 = .ok (.goto 5, 3) := by decide +kernel
theorem dX9_tried_190 : decode cX9_tried 190 = .ok (.bipush (-6), 2) := by decide +kernel
theorem dX9_tried_192 : decode cX9_tried 192 = .ok (.ireturn, 1) := by decide +kernel
theorem dX9_row_0 : decode cX9_row 0 = .ok (.aload_n 0, 1) := by decide +kernel
theorem dX9_row_1 : decode cX9_row 1 = .ok (.iconst 0, 1) := by decide +kernel
theorem dX9_row_2 : decode cX9_row 2 = .ok (.putfield 90, 3) := by decide +kernel
theorem dX9_row_5 : decode cX9_row 5 = .ok (.iload_n 1, 1) := by decide +kernel
theorem dX9_row_6 : decode cX9_row 6 = .ok (.invokestatic 201, 3) := by decide +kernel
theorem dX9_row_9 : decode cX9_row 9 = .ok (.ifCond .eq 18, 3) := by decide +kernel
theorem dX9_row_12 : decode cX9_row 12 = .ok (.iload_n 2, 1) := by decide +kernel
theorem dX9_row_13 : decode cX9_row 13 = .ok (.iconst 0, 1) := by decide +kernel
theorem dX9_row_14 : decode cX9_row 14 = .ok (.aload_n 0, 1) := by decide +kernel
theorem dX9_row_15 : decode cX9_row 15 = .ok (.iload_n 1, 1) := by decide +kernel
theorem dX9_row_16 : decode cX9_row 16 = .ok (.invokevirtual 100, 3) := by decide +kernel
theorem dX9_row_19 : decode cX9_row 19 = .ok (.iconst 1, 1) := by decide +kernel
theorem dX9_row_20 : decode cX9_row 20 = .ok (.isub, 1) := by decide +kernel
theorem dX9_row_21 : decode cX9_row 21 = .ok (.invokestatic 93, 3) := by decide +kernel
theorem dX9_row_24 : decode cX9_row 24 = .ok (.ifCond .ne 5, 3) := by decide +kernel
theorem dX9_row_27 : decode cX9_row 27 = .ok (.iconst (-1), 1) := by decide +kernel
theorem dX9_row_28 : decode cX9_row 28 = .ok (.ireturn, 1) := by decide +kernel
theorem dX9_row_29 : decode cX9_row 29 = .ok (.iload_n 3, 1) := by decide +kernel
theorem dX9_row_30 : decode cX9_row 30 = .ok (.iconst 0, 1) := by decide +kernel
theorem dX9_row_31 : decode cX9_row 31 = .ok (.iconst 1, 1) := by decide +kernel
theorem dX9_row_32 : decode cX9_row 32 = .ok (.invokestatic 93, 3) := by decide +kernel
theorem dX9_row_35 : decode cX9_row 35 = .ok (.ifCond .eq 18, 3) := by decide +kernel
theorem dX9_row_38 : decode cX9_row 38 = .ok (.aload_n 0, 1) := by decide +kernel
theorem dX9_row_39 : decode cX9_row 39 = .ok (.getfield 7, 3) := by decide +kernel
theorem dX9_row_42 : decode cX9_row 42 = .ok (.iload_n 1, 1) := by decide +kernel
theorem dX9_row_43 : decode cX9_row 43 = .ok (.iload_n 2, 1) := by decide +kernel
theorem dX9_row_44 : decode cX9_row 44 = .ok (.invokestatic 104, 3) := by decide +kernel
theorem dX9_row_47 : decode cX9_row 47 = .ok (.iload_n 3, 1) := by decide +kernel
theorem dX9_row_48 : decode cX9_row 48 = .ok (.iadd, 1) := by decide +kernel
theorem dX9_row_49 : decode cX9_row 49 = .ok (.iaload, 1) := by decide +kernel
theorem dX9_row_50 : decode cX9_row 50 = .ok (.goto 5, 3) := by decide +kernel
theorem dX9_row_53 : decode cX9_row 53 = .ok (.bipush (-2), 2) := by decide +kernel
theorem dX9_row_55 : decode cX9_row 55 = .ok (.ireturn, 1) := by decide +kernel
theorem dX9_value_0 : decode cX9_value 0 = .ok (.aload_n 0, 1) := by decide +kernel
theorem dX9_value_1 : decode cX9_value 1 = .ok (.iconst 0, 1) := by decide +kernel
theorem dX9_value_2 : decode cX9_value 2 = .ok (.putfield 90, 3) := by decide +kernel
theorem dX9_value_5 : decode cX9_value 5 = .ok (.iload_n 1, 1) := by decide +kernel
theorem dX9_value_6 : decode cX9_value 6 = .ok (.invokestatic 201, 3) := by decide +kernel
theorem dX9_value_9 : decode cX9_value 9 = .ok (.ifCond .ne 5, 3) := by decide +kernel
theorem dX9_value_12 : decode cX9_value 12 = .ok (.iconst (-1), 1) := by decide +kernel
theorem dX9_value_13 : decode cX9_value 13 = .ok (.ireturn, 1) := by decide +kernel
theorem dX9_value_14 : decode cX9_value 14 = .ok (.iload_n 2, 1) := by decide +kernel
theorem dX9_value_15 : decode cX9_value 15 = .ok (.iconst 0, 1) := by decide +kernel
theorem dX9_value_16 : decode cX9_value 16 = .ok (.bipush 99, 2) := by decide +kernel
theorem dX9_value_18 : decode cX9_value 18 = .ok (.invokestatic 93, 3) := by decide +kernel
theorem dX9_value_21 : decode cX9_value 21 = .ok (.ifCond .eq 12, 3) := by decide +kernel
theorem dX9_value_24 : decode cX9_value 24 = .ok (.aload_n 0, 1) := by decide +kernel
theorem dX9_value_25 : decode cX9_value 25 = .ok (.iload_n 1, 1) := by decide +kernel
theorem dX9_value_26 : decode cX9_value 26 = .ok (.iload_n 2, 1) := by decide +kernel
theorem dX9_value_27 : decode cX9_value 27 = .ok (.invokevirtual 111, 3) := by decide +kernel
theorem dX9_value_30 : decode cX9_value 30 = .ok (.goto 5, 3) := by decide +kernel
theorem dX9_value_33 : decode cX9_value 33 = .ok (.bipush (-2), 2) := by decide +kernel
theorem dX9_value_35 : decode cX9_value 35 = .ok (.ireturn, 1) := by decide +kernel
theorem dX9_laysSets_0 : decode cX9_laysSets 0 = .ok (.iconst 0, 1) := by decide +kernel
theorem dX9_laysSets_1 : decode cX9_laysSets 1 = .ok (.istore_n 1, 1) := by decide +kernel
theorem dX9_laysSets_2 : decode cX9_laysSets 2 = .ok (.iload_n 1, 1) := by decide +kernel
theorem dX9_laysSets_3 : decode cX9_laysSets 3 = .ok (.bipush 12, 2) := by decide +kernel
theorem dX9_laysSets_5 : decode cX9_laysSets 5 = .ok (.if_icmp .ge 125, 3) := by decide +kernel
theorem dX9_laysSets_8 : decode cX9_laysSets 8 = .ok (.aload_n 0, 1) := by decide +kernel
theorem dX9_laysSets_9 : decode cX9_laysSets 9 = .ok (.getfield 81, 3) := by decide +kernel
theorem dX9_laysSets_12 : decode cX9_laysSets 12 = .ok (.iload_n 1, 1) := by decide +kernel
theorem dX9_laysSets_13 : decode cX9_laysSets 13 = .ok (.iconst 0, 1) := by decide +kernel
theorem dX9_laysSets_14 : decode cX9_laysSets 14 = .ok (.iastore, 1) := by decide +kernel
theorem dX9_laysSets_15 : decode cX9_laysSets 15 = .ok (.iconst 0, 1) := by decide +kernel
theorem dX9_laysSets_16 : decode cX9_laysSets 16 = .ok (.istore_n 2, 1) := by decide +kernel
theorem dX9_laysSets_17 : decode cX9_laysSets 17 = .ok (.iload_n 2, 1) := by decide +kernel
theorem dX9_laysSets_18 : decode cX9_laysSets 18 = .ok (.aload_n 0, 1) := by decide +kernel
theorem dX9_laysSets_19 : decode cX9_laysSets 19 = .ok (.getfield 7, 3) := by decide +kernel
theorem dX9_laysSets_22 : decode cX9_laysSets 22 = .ok (.bipush 102, 2) := by decide +kernel
theorem dX9_laysSets_24 : decode cX9_laysSets 24 = .ok (.iaload, 1) := by decide +kernel
theorem dX9_laysSets_25 : decode cX9_laysSets 25 = .ok (.if_icmp .ge 87, 3) := by decide +kernel
theorem dX9_laysSets_28 : decode cX9_laysSets 28 = .ok (.iload_n 1, 1) := by decide +kernel
theorem dX9_laysSets_29 : decode cX9_laysSets 29 = .ok (.aload_n 0, 1) := by decide +kernel
theorem dX9_laysSets_30 : decode cX9_laysSets 30 = .ok (.getfield 7, 3) := by decide +kernel
theorem dX9_laysSets_33 : decode cX9_laysSets 33 = .ok (.bipush 102, 2) := by decide +kernel
theorem dX9_laysSets_35 : decode cX9_laysSets 35 = .ok (.iaload, 1) := by decide +kernel
theorem dX9_laysSets_36 : decode cX9_laysSets 36 = .ok (.if_icmp .ge 48, 3) := by decide +kernel
theorem dX9_laysSets_39 : decode cX9_laysSets 39 = .ok (.aload_n 0, 1) := by decide +kernel
theorem dX9_laysSets_40 : decode cX9_laysSets 40 = .ok (.iload_n 1, 1) := by decide +kernel
theorem dX9_laysSets_41 : decode cX9_laysSets 41 = .ok (.iconst 4, 1) := by decide +kernel
theorem dX9_laysSets_42 : decode cX9_laysSets 42 = .ok (.invokevirtual 146, 3) := by decide +kernel
theorem dX9_laysSets_45 : decode cX9_laysSets 45 = .ok (.ifCond .le 39, 3) := by decide +kernel
theorem dX9_laysSets_48 : decode cX9_laysSets 48 = .ok (.aload_n 0, 1) := by decide +kernel
theorem dX9_laysSets_49 : decode cX9_laysSets 49 = .ok (.iload_n 2, 1) := by decide +kernel
theorem dX9_laysSets_50 : decode cX9_laysSets 50 = .ok (.iconst 0, 1) := by decide +kernel
theorem dX9_laysSets_51 : decode cX9_laysSets 51 = .ok (.invokevirtual 146, 3) := by decide +kernel
theorem dX9_laysSets_54 : decode cX9_laysSets 54 = .ok (.aload_n 0, 1) := by decide +kernel
theorem dX9_laysSets_55 : decode cX9_laysSets 55 = .ok (.iload_n 1, 1) := by decide +kernel
theorem dX9_laysSets_56 : decode cX9_laysSets 56 = .ok (.iconst 5, 1) := by decide +kernel
theorem dX9_laysSets_57 : decode cX9_laysSets 57 = .ok (.invokevirtual 146, 3) := by decide +kernel
theorem dX9_laysSets_60 : decode cX9_laysSets 60 = .ok (.if_icmp .ne 24, 3) := by decide +kernel
theorem dX9_laysSets_63 : decode cX9_laysSets 63 = .ok (.aload_n 0, 1) := by decide +kernel
theorem dX9_laysSets_64 : decode cX9_laysSets 64 = .ok (.iload_n 2, 1) := by decide +kernel
theorem dX9_laysSets_65 : decode cX9_laysSets 65 = .ok (.iconst 1, 1) := by decide +kernel
theorem dX9_laysSets_66 : decode cX9_laysSets 66 = .ok (.invokevirtual 146, 3) := by decide +kernel
theorem dX9_laysSets_69 : decode cX9_laysSets 69 = .ok (.aload_n 0, 1) := by decide +kernel
theorem dX9_laysSets_70 : decode cX9_laysSets 70 = .ok (.iload_n 1, 1) := by decide +kernel
theorem dX9_laysSets_71 : decode cX9_laysSets 71 = .ok (.iconst 4, 1) := by decide +kernel
theorem dX9_laysSets_72 : decode cX9_laysSets 72 = .ok (.invokevirtual 146, 3) := by decide +kernel
theorem dX9_laysSets_75 : decode cX9_laysSets 75 = .ok (.iconst 1, 1) := by decide +kernel
theorem dX9_laysSets_76 : decode cX9_laysSets 76 = .ok (.isub, 1) := by decide +kernel
theorem dX9_laysSets_77 : decode cX9_laysSets 77 = .ok (.if_icmp .ne 7, 3) := by decide +kernel
theorem dX9_laysSets_80 : decode cX9_laysSets 80 = .ok (.iconst 1, 1) := by decide +kernel
theorem dX9_laysSets_81 : decode cX9_laysSets 81 = .ok (.goto 4, 3) := by decide +kernel
theorem dX9_laysSets_84 : decode cX9_laysSets 84 = .ok (.iconst 0, 1) := by decide +kernel
theorem dX9_laysSets_85 : decode cX9_laysSets 85 = .ok (.istore_n 3, 1) := by decide +kernel
theorem dX9_laysSets_86 : decode cX9_laysSets 86 = .ok (.aload_n 0, 1) := by decide +kernel
theorem dX9_laysSets_87 : decode cX9_laysSets 87 = .ok (.getfield 81, 3) := by decide +kernel
theorem dX9_laysSets_90 : decode cX9_laysSets 90 = .ok (.iload_n 1, 1) := by decide +kernel
theorem dX9_laysSets_91 : decode cX9_laysSets 91 = .ok (.dup2, 1) := by decide +kernel
theorem dX9_laysSets_92 : decode cX9_laysSets 92 = .ok (.iaload, 1) := by decide +kernel
theorem dX9_laysSets_93 : decode cX9_laysSets 93 = .ok (.iload_n 3, 1) := by decide +kernel
theorem dX9_laysSets_94 : decode cX9_laysSets 94 = .ok (.ifCond .eq 9, 3) := by decide +kernel
theorem dX9_laysSets_97 : decode cX9_laysSets 97 = .ok (.iconst 1, 1) := by decide +kernel
theorem dX9_laysSets_98 : decode cX9_laysSets 98 = .ok (.iload_n 2, 1) := by decide +kernel
theorem dX9_laysSets_99 : decode cX9_laysSets 99 = .ok (.ishl, 1) := by decide +kernel
theorem dX9_laysSets_100 : decode cX9_laysSets 100 = .ok (.goto 4, 3) := by decide +kernel
theorem dX9_laysSets_103 : decode cX9_laysSets 103 = .ok (.iconst 0, 1) := by decide +kernel
theorem dX9_laysSets_104 : decode cX9_laysSets 104 = .ok (.ior, 1) := by decide +kernel
theorem dX9_laysSets_105 : decode cX9_laysSets 105 = .ok (.iastore, 1) := by decide +kernel
theorem dX9_laysSets_106 : decode cX9_laysSets 106 = .ok (.iinc 2 1, 3) := by decide +kernel
theorem dX9_laysSets_109 : decode cX9_laysSets 109 = .ok (.goto (-92), 3) := by decide +kernel
theorem dX9_laysSets_112 : decode cX9_laysSets 112 = .ok (.aload_n 0, 1) := by decide +kernel
theorem dX9_laysSets_113 : decode cX9_laysSets 113 = .ok (.getfield 84, 3) := by decide +kernel
theorem dX9_laysSets_116 : decode cX9_laysSets 116 = .ok (.iload_n 1, 1) := by decide +kernel
