/-! what each instruction of the program is (printed by program) -/
theorem dX6_placeOf_41 : decode cX6_placeOf 41 = .ok (.ireturn, 1) := by decide +kernel
theorem dX6_weightOf_0 : decode cX6_weightOf 0 = .ok (.aload_n 0, 1) := by decide +kernel
theorem dX6_weightOf_1 : decode cX6_weightOf 1 = .ok (.iload_n 2, 1) := by decide +kernel
theorem dX6_weightOf_2 : decode cX6_weightOf 2 = .ok (.iload_n 3, 1) := by decide +kernel
theorem dX6_weightOf_3 : decode cX6_weightOf 3 = .ok (.invokevirtual 39, 3) := by decide +kernel
theorem dX6_weightOf_6 : decode cX6_weightOf 6 = .ok (.istore 5, 2) := by decide +kernel
theorem dX6_weightOf_8 : decode cX6_weightOf 8 = .ok (.iload_n 1, 1) := by decide +kernel
theorem dX6_weightOf_9 : decode cX6_weightOf 9 = .ok (.ifCond .ne 26, 3) := by decide +kernel
theorem dX6_weightOf_12 : decode cX6_weightOf 12 = .ok (.iload 5, 2) := by decide +kernel
theorem dX6_weightOf_14 : decode cX6_weightOf 14 = .ok (.iconst (-1), 1) := by decide +kernel
theorem dX6_weightOf_15 : decode cX6_weightOf 15 = .ok (.if_icmp .ne 18, 3) := by decide +kernel
theorem dX6_weightOf_18 : decode cX6_weightOf 18 = .ok (.aload_n 0, 1) := by decide +kernel
theorem dX6_weightOf_19 : decode cX6_weightOf 19 = .ok (.iload_n 2, 1) := by decide +kernel
theorem dX6_weightOf_20 : decode cX6_weightOf 20 = .ok (.invokevirtual 35, 3) := by decide +kernel
theorem dX6_weightOf_23 : decode cX6_weightOf 23 = .ok (.bipush 12, 2) := by decide +kernel
theorem dX6_weightOf_25 : decode cX6_weightOf 25 = .ok (.if_icmp .ge 8, 3) := by decide +kernel
theorem dX6_weightOf_28 : decode cX6_weightOf 28 = .ok (.iload 4, 2) := by decide +kernel
theorem dX6_weightOf_30 : decode cX6_weightOf 30 = .ok (.goto 4, 3) := by decide +kernel
theorem dX6_weightOf_33 : decode cX6_weightOf 33 = .ok (.iconst (-1), 1) := by decide +kernel
theorem dX6_weightOf_34 : decode cX6_weightOf 34 = .ok (.ireturn, 1) := by decide +kernel
theorem dX6_weightOf_35 : decode cX6_weightOf 35 = .ok (.iload 5, 2) := by decide +kernel
theorem dX6_weightOf_37 : decode cX6_weightOf 37 = .ok (.iconst (-1), 1) := by decide +kernel
theorem dX6_weightOf_38 : decode cX6_weightOf 38 = .ok (.if_icmp .ne 5, 3) := by decide +kernel
theorem dX6_weightOf_41 : decode cX6_weightOf 41 = .ok (.iconst (-1), 1) := by decide +kernel
theorem dX6_weightOf_42 : decode cX6_weightOf 42 = .ok (.ireturn, 1) := by decide +kernel
theorem dX6_weightOf_43 : decode cX6_weightOf 43 = .ok (.iload_n 1, 1) := by decide +kernel
theorem dX6_weightOf_44 : decode cX6_weightOf 44 = .ok (.iconst 2, 1) := by decide +kernel
theorem dX6_weightOf_45 : decode cX6_weightOf 45 = .ok (.if_icmp .ne 11, 3) := by decide +kernel
theorem dX6_weightOf_48 : decode cX6_weightOf 48 = .ok (.aload_n 0, 1) := by decide +kernel
theorem dX6_weightOf_49 : decode cX6_weightOf 49 = .ok (.iload_n 2, 1) := by decide +kernel
theorem dX6_weightOf_50 : decode cX6_weightOf 50 = .ok (.iload 5, 2) := by decide +kernel
theorem dX6_weightOf_52 : decode cX6_weightOf 52 = .ok (.invokevirtual 31, 3) := by decide +kernel
theorem dX6_weightOf_55 : decode cX6_weightOf 55 = .ok (.ireturn, 1) := by decide +kernel
theorem dX6_weightOf_56 : decode cX6_weightOf 56 = .ok (.aload_n 0, 1) := by decide +kernel
theorem dX6_weightOf_57 : decode cX6_weightOf 57 = .ok (.iload_n 2, 1) := by decide +kernel
theorem dX6_weightOf_58 : decode cX6_weightOf 58 = .ok (.iload 5, 2) := by decide +kernel
theorem dX6_weightOf_60 : decode cX6_weightOf 60 = .ok (.invokevirtual 31, 3) := by decide +kernel
theorem dX6_weightOf_63 : decode cX6_weightOf 63 = .ok (.iload 4, 2) := by decide +kernel
theorem dX6_weightOf_65 : decode cX6_weightOf 65 = .ok (.iadd, 1) := by decide +kernel
theorem dX6_weightOf_66 : decode cX6_weightOf 66 = .ok (.istore 6, 2) := by decide +kernel
theorem dX6_weightOf_68 : decode cX6_weightOf 68 = .ok (.iload 6, 2) := by decide +kernel
theorem dX6_weightOf_70 : decode cX6_weightOf 70 = .ok (.sipush 1000, 3) := by decide +kernel
theorem dX6_weightOf_73 : decode cX6_weightOf 73 = .ok (.if_icmp .ge 8, 3) := by decide +kernel
theorem dX6_weightOf_76 : decode cX6_weightOf 76 = .ok (.iload 6, 2) := by decide +kernel
theorem dX6_weightOf_78 : decode cX6_weightOf 78 = .ok (.goto 4, 3) := by decide +kernel
theorem dX6_weightOf_81 : decode cX6_weightOf 81 = .ok (.iconst (-1), 1) := by decide +kernel
theorem dX6_weightOf_82 : decode cX6_weightOf 82 = .ok (.ireturn, 1) := by decide +kernel
theorem dX6_apply_0 : decode cX6_apply 0 = .ok (.iload_n 1, 1) := by decide +kernel
theorem dX6_apply_1 : decode cX6_apply 1 = .ok (.ifCond .ne 14, 3) := by decide +kernel
theorem dX6_apply_4 : decode cX6_apply 4 = .ok (.aload_n 0, 1) := by decide +kernel
theorem dX6_apply_5 : decode cX6_apply 5 = .ok (.iload_n 2, 1) := by decide +kernel
theorem dX6_apply_6 : decode cX6_apply 6 = .ok (.iload_n 3, 1) := by decide +kernel
theorem dX6_apply_7 : decode cX6_apply 7 = .ok (.iload 4, 2) := by decide +kernel
theorem dX6_apply_9 : decode cX6_apply 9 = .ok (.invokevirtual 42, 3) := by decide +kernel
theorem dX6_apply_12 : decode cX6_apply 12 = .ok (.goto 35, 3) := by decide +kernel
theorem dX6_apply_15 : decode cX6_apply 15 = .ok (.iload_n 1, 1) := by decide +kernel
theorem dX6_apply_16 : decode cX6_apply 16 = .ok (.iconst 1, 1) := by decide +kernel
theorem dX6_apply_17 : decode cX6_apply 17 = .ok (.if_icmp .ne 19, 3) := by decide +kernel
theorem dX6_apply_20 : decode cX6_apply 20 = .ok (.aload_n 0, 1) := by decide +kernel
theorem dX6_apply_21 : decode cX6_apply 21 = .ok (.iload_n 2, 1) := by decide +kernel
theorem dX6_apply_22 : decode cX6_apply 22 = .ok (.aload_n 0, 1) := by decide +kernel
theorem dX6_apply_23 : decode cX6_apply 23 = .ok (.iload_n 2, 1) := by decide +kernel
theorem dX6_apply_24 : decode cX6_apply 24 = .ok (.iload_n 3, 1) := by decide +kernel
theorem dX6_apply_25 : decode cX6_apply 25 = .ok (.invokevirtual 39, 3) := by decide +kernel
theorem dX6_apply_28 : decode cX6_apply 28 = .ok (.iload 4, 2) := by decide +kernel
theorem dX6_apply_30 : decode cX6_apply 30 = .ok (.invokevirtual 46, 3) := by decide +kernel
theorem dX6_apply_33 : decode cX6_apply 33 = .ok (.goto 14, 3) := by decide +kernel
theorem dX6_apply_36 : decode cX6_apply 36 = .ok (.aload_n 0, 1) := by decide +kernel
theorem dX6_apply_37 : decode cX6_apply 37 = .ok (.iload_n 2, 1) := by decide +kernel
theorem dX6_apply_38 : decode cX6_apply 38 = .ok (.aload_n 0, 1) := by decide +kernel
theorem dX6_apply_39 : decode cX6_apply 39 = .ok (.iload_n 2, 1) := by decide +kernel
theorem dX6_apply_40 : decode cX6_apply 40 = .ok (.iload_n 3, 1) := by decide +kernel
theorem dX6_apply_41 : decode cX6_apply 41 = .ok (.invokevirtual 39, 3) := by decide +kernel
theorem dX6_apply_44 : decode cX6_apply 44 = .ok (.invokevirtual 49, 3) := by decide +kernel
theorem dX6_apply_47 : decode cX6_apply 47 = .ok (.return_, 1) := by decide +kernel
theorem dX6_insert_0 : decode cX6_insert 0 = .ok (.iload_n 1, 1) := by decide +kernel
theorem dX6_insert_1 : decode cX6_insert 1 = .ok (.iconst 4, 1) := by decide +kernel
theorem dX6_insert_2 : decode cX6_insert 2 = .ok (.invokestatic 27, 3) := by decide +kernel
theorem dX6_insert_5 : decode cX6_insert 5 = .ok (.ifCond .eq 14, 3) := by decide +kernel
theorem dX6_insert_8 : decode cX6_insert 8 = .ok (.aload_n 0, 1) := by decide +kernel
theorem dX6_insert_9 : decode cX6_insert 9 = .ok (.getfield 9, 3) := by decide +kernel
theorem dX6_insert_12 : decode cX6_insert 12 = .ok (.iload_n 1, 1) := by decide +kernel
theorem dX6_insert_13 : decode cX6_insert 13 = .ok (.iaload, 1) := by decide +kernel
theorem dX6_insert_14 : decode cX6_insert 14 = .ok (.bipush 12, 2) := by decide +kernel
theorem dX6_insert_16 : decode cX6_insert 16 = .ok (.if_icmp .lt 4, 3) := by decide +kernel
theorem dX6_insert_19 : decode cX6_insert 19 = .ok (.return_, 1) := by decide +kernel
theorem dX6_insert_20 : decode cX6_insert 20 = .ok (.iload_n 1, 1) := by decide +kernel
theorem dX6_insert_21 : decode cX6_insert 21 = .ok (.bipush 12, 2) := by decide +kernel
theorem dX6_insert_23 : decode cX6_insert 23 = .ok (.imul, 1) := by decide +kernel
theorem dX6_insert_24 : decode cX6_insert 24 = .ok (.istore 4, 2) := by decide +kernel
theorem dX6_insert_26 : decode cX6_insert 26 = .ok (.iload 4, 2) := by decide +kernel
theorem dX6_insert_28 : decode cX6_insert 28 = .ok (.aload_n 0, 1) := by decide +kernel
theorem dX6_insert_29 : decode cX6_insert 29 = .ok (.getfield 9, 3) := by decide +kernel
theorem dX6_insert_32 : decode cX6_insert 32 = .ok (.iload_n 1, 1) := by decide +kernel
theorem dX6_insert_33 : decode cX6_insert 33 = .ok (.iaload, 1) := by decide +kernel
theorem dX6_insert_34 : decode cX6_insert 34 = .ok (.iadd, 1) := by decide +kernel
theorem dX6_insert_35 : decode cX6_insert 35 = .ok (.istore 5, 2) := by decide +kernel
theorem dX6_insert_37 : decode cX6_insert 37 = .ok (.iload 5, 2) := by decide +kernel
theorem dX6_insert_39 : decode cX6_insert 39 = .ok (.iload 4, 2) := by decide +kernel
theorem dX6_insert_41 : decode cX6_insert 41 = .ok (.if_icmp .le 54, 3) := by decide +kernel
theorem dX6_insert_44 : decode cX6_insert 44 = .ok (.aload_n 0, 1) := by decide +kernel
theorem dX6_insert_45 : decode cX6_insert 45 = .ok (.getfield 15, 3) := by decide +kernel
theorem dX6_insert_48 : decode cX6_insert 48 = .ok (.iload 5, 2) := by decide +kernel
theorem dX6_insert_50 : decode cX6_insert 50 = .ok (.iconst 1, 1) := by decide +kernel
theorem dX6_insert_51 : decode cX6_insert 51 = .ok (.isub, 1) := by decide +kernel
theorem dX6_insert_52 : decode cX6_insert 52 = .ok (.iaload, 1) := by decide +kernel
theorem dX6_insert_53 : decode cX6_insert 53 = .ok (.iload_n 2, 1) := by decide +kernel
theorem dX6_insert_54 : decode cX6_insert 54 = .ok (.if_icmp .le 41, 3) := by decide +kernel
theorem dX6_insert_57 : decode cX6_insert 57 = .ok (.aload_n 0, 1) := by decide +kernel
theorem dX6_insert_58 : decode cX6_insert 58 = .ok (.getfield 15, 3) := by decide +kernel
theorem dX6_insert_61 : decode cX6_insert 61 = .ok (.iload 5, 2) := by decide +kernel
theorem dX6_insert_63 : decode cX6_insert 63 = .ok (.aload_n 0, 1) := by decide +kernel
theorem dX6_insert_64 : decode cX6_insert 64 = .ok (.getfield 15, 3) := by decide +kernel
theorem dX6_insert_67 : decode cX6_insert 67 = .ok (.iload 5, 2) := by decide +kernel
theorem dX6_insert_69 : decode cX6_insert 69 = .ok (.iconst 1, 1) := by decide +kernel
theorem dX6_insert_70 : decode cX6_insert 70 = .ok (.isub, 1) := by decide +kernel
theorem dX6_insert_71 : decode cX6_insert 71 = .ok (.iaload, 1) := by decide +kernel
theorem dX6_insert_72 : decode cX6_insert 72 = .ok (.iastore, 1) := by decide +kernel
theorem dX6_insert_73 : decode cX6_insert 73 = .ok (.aload_n 0, 1) := by decide +kernel
theorem dX6_insert_74 : decode cX6_insert 74 = .ok (.getfield 18, 3) := by decide +kernel
theorem dX6_insert_77 : decode cX6_insert 77 = .ok (.iload 5, 2) := by decide +kernel
theorem dX6_insert_79 : decode cX6_insert 79 = .ok (.aload_n 0, 1) := by decide +kernel
theorem dX6_insert_80 : decode cX6_insert 80 = .ok (.getfield 18, 3) := by decide +kernel
theorem dX6_insert_83 : decode cX6_insert 83 = .ok (.iload 5, 2) := by decide +kernel
theorem dX6_insert_85 : decode cX6_insert 85 = .ok (.iconst 1, 1) := by decide +kernel
theorem dX6_insert_86 : decode cX6_insert 86 = .ok (.isub, 1) := by decide +kernel
theorem dX6_insert_87 : decode cX6_insert 87 = .ok (.iaload, 1) := by decide +kernel
theorem dX6_insert_88 : decode cX6_insert 88 = .ok (.iastore, 1) := by decide +kernel
theorem dX6_insert_89 : decode cX6_insert 89 = .ok (.iinc 5 (-1), 3) := by decide +kernel
theorem dX6_insert_92 : decode cX6_insert 92 = .ok (.goto (-55), 3) := by decide +kernel
theorem dX6_insert_95 : decode cX6_insert 95 = .ok (.aload_n 0, 1) := by decide +kernel
theorem dX6_insert_96 : decode cX6_insert 96 = .ok (.getfield 15, 3) := by decide +kernel
theorem dX6_insert_99 : decode cX6_insert 99 = .ok (.iload 5, 2) := by decide +kernel
theorem dX6_insert_101 : decode cX6_insert 101 = .ok (.iload_n 2, 1) := by decide +kernel
theorem dX6_insert_102 : decode cX6_insert 102 = .ok (.iastore, 1) := by decide +kernel
theorem dX6_insert_103 : decode cX6_insert 103 = .ok (.aload_n 0, 1) := by decide +kernel
theorem dX6_insert_104 : decode cX6_insert 104 = .ok (.getfield 18, 3) := by decide +kernel
theorem dX6_insert_107 : decode cX6_insert 107 = .ok (.iload 5, 2) := by decide +kernel
theorem dX6_insert_109 : decode cX6_insert 109 = .ok (.iload_n 3, 1) := by decide +kernel
theorem dX6_insert_110 : decode cX6_insert 110 = .ok (.iastore, 1) := by decide +kernel
theorem dX6_insert_111 : decode cX6_insert 111 = .ok (.aload_n 0, 1) := by decide +kernel
theorem dX6_insert_112 : decode cX6_insert 112 = .ok (.getfield 9, 3) := by decide +kernel
theorem dX6_insert_115 : decode cX6_insert 115 = .ok (.iload_n 1, 1) := by decide +kernel
theorem dX6_insert_116 : decode cX6_insert 116 = .ok (.dup2, 1) := by decide +kernel
theorem dX6_insert_117 : decode cX6_insert 117 = .ok (.iaload, 1) := by decide +kernel
theorem dX6_insert_118 : decode cX6_insert 118 = .ok (.iconst 1, 1) := by decide +kernel
theorem dX6_insert_119 : decode cX6_insert 119 = .ok (.iadd, 1) := by decide +kernel
theorem dX6_insert_120 : decode cX6_insert 120 = .ok (.iastore, 1) := by decide +kernel
theorem dX6_insert_121 : decode cX6_insert 121 = .ok (.return_, 1) := by decide +kernel
theorem dX6_renumber_0 : decode cX6_renumber 0 = .ok (.iload_n 1, 1) := by decide +kernel
theorem dX6_renumber_1 : decode cX6_renumber 1 = .ok (.iconst 4, 1) := by decide +kernel
theorem dX6_renumber_2 : decode cX6_renumber 2 = .ok (.invokestatic 27, 3) := by decide +kernel
theorem dX6_renumber_5 : decode cX6_renumber 5 = .ok (.ifCond .eq 28, 3) := by decide +kernel
theorem dX6_renumber_8 : decode cX6_renumber 8 = .ok (.iload_n 2, 1) := by decide +kernel
theorem dX6_renumber_9 : decode cX6_renumber 9 = .ok (.aload_n 0, 1) := by decide +kernel
theorem dX6_renumber_10 : decode cX6_renumber 10 = .ok (.getfield 9, 3) := by decide +kernel
theorem dX6_renumber_13 : decode cX6_renumber 13 = .ok (.iload_n 1, 1) := by decide +kernel
theorem dX6_renumber_14 : decode cX6_renumber 14 = .ok (.iaload, 1) := by decide +kernel
theorem dX6_renumber_15 : decode cX6_renumber 15 = .ok (.invokestatic 27, 3) := by decide +kernel
theorem dX6_renumber_18 : decode cX6_renumber 18 = .ok (.ifCond .eq 15, 3) := by decide +kernel
theorem dX6_renumber_21 : decode cX6_renumber 21 = .ok (.aload_n 0, 1) := by decide +kernel
theorem dX6_renumber_22 : decode cX6_renumber 22 = .ok (.getfield 18, 3) := by decide +kernel
theorem dX6_renumber_25 : decode cX6_renumber 25 = .ok (.iload_n 1, 1) := by decide +kernel
theorem dX6_renumber_26 : decode cX6_renumber 26 = .ok (.bipush 12, 2) := by decide +kernel
theorem dX6_renumber_28 : decode cX6_renumber 28 = .ok (.imul, 1) := by decide +kernel
theorem dX6_renumber_29 : decode cX6_renumber 29 = .ok (.iload_n 2, 1) := by decide +kernel
theorem dX6_renumber_30 : decode cX6_renumber 30 = .ok (.iadd, 1) := by decide +kernel
theorem dX6_renumber_31 : decode cX6_renumber 31 = .ok (.iload_n 3, 1) := by decide +kernel
theorem dX6_renumber_32 : decode cX6_renumber 32 = .ok (.iastore, 1) := by decide +kernel
theorem dX6_renumber_33 : decode cX6_renumber 33 = .ok (.return_, 1) := by decide +kernel
theorem dX6_remove_0 : decode cX6_remove 0 = .ok (.iload_n 1, 1) := by decide +kernel
theorem dX6_remove_1 : decode cX6_remove 1 = .ok (.iconst 4, 1) := by decide +kernel
theorem dX6_remove_2 : decode cX6_remove 2 = .ok (.invokestatic 27, 3) := by decide +kernel
theorem dX6_remove_5 : decode cX6_remove 5 = .ok (.ifCond .eq 16, 3) := by decide +kernel
theorem dX6_remove_8 : decode cX6_remove 8 = .ok (.iload_n 2, 1) := by decide +kernel
theorem dX6_remove_9 : decode cX6_remove 9 = .ok (.aload_n 0, 1) := by decide +kernel
theorem dX6_remove_10 : decode cX6_remove 10 = .ok (.getfield 9, 3) := by decide +kernel
theorem dX6_remove_13 : decode cX6_remove 13 = .ok (.iload_n 1, 1) := by decide +kernel
theorem dX6_remove_14 : decode cX6_remove 14 = .ok (.iaload, 1) := by decide +kernel
theorem dX6_remove_15 : decode cX6_remove 15 = .ok (.invokestatic 27, 3) := by decide +kernel
theorem dX6_remove_18 : decode cX6_remove 18 = .ok (.ifCond .ne 4, 3) := by decide +kernel
theorem dX6_remove_21 : decode cX6_remove 21 = .ok (.return_, 1) := by decide +kernel
theorem dX6_remove_22 : decode cX6_remove 22 = .ok (.aload_n 0, 1) := by decide +kernel
theorem dX6_remove_23 : decode cX6_remove 23 = .ok (.getfield 9, 3) := by decide +kernel
theorem dX6_remove_26 : decode cX6_remove 26 = .ok (.iload_n 1, 1) := by decide +kernel
theorem dX6_remove_27 : decode cX6_remove 27 = .ok (.dup2, 1) := by decide +kernel
theorem dX6_remove_28 : decode cX6_remove 28 = .ok (.iaload, 1) := by decide +kernel
theorem dX6_remove_29 : decode cX6_remove 29 = .ok (.iconst 1, 1) := by decide +kernel
theorem dX6_remove_30 : decode cX6_remove 30 = .ok (.isub, 1) := by decide +kernel
theorem dX6_remove_31 : decode cX6_remove 31 = .ok (.iastore, 1) := by decide +kernel
theorem dX6_remove_32 : decode cX6_remove 32 = .ok (.iload_n 1, 1) := by decide +kernel
theorem dX6_remove_33 : decode cX6_remove 33 = .ok (.bipush 12, 2) := by decide +kernel
theorem dX6_remove_35 : decode cX6_remove 35 = .ok (.imul, 1) := by decide +kernel
theorem dX6_remove_36 : decode cX6_remove 36 = .ok (.aload_n 0, 1) := by decide +kernel
theorem dX6_remove_37 : decode cX6_remove 37 = .ok (.getfield 9, 3) := by decide +kernel
theorem dX6_remove_40 : decode cX6_remove 40 = .ok (.iload_n 1, 1) := by decide +kernel
theorem dX6_remove_41 : decode cX6_remove 41 = .ok (.iaload, 1) := by decide +kernel
theorem dX6_remove_42 : decode cX6_remove 42 = .ok (.iadd, 1) := by decide +kernel
theorem dX6_remove_43 : decode cX6_remove 43 = .ok (.istore_n 3, 1) := by decide +kernel
theorem dX6_remove_44 : decode cX6_remove 44 = .ok (.iload_n 1, 1) := by decide +kernel
theorem dX6_remove_45 : decode cX6_remove 45 = .ok (.bipush 12, 2) := by decide +kernel
theorem dX6_remove_47 : decode cX6_remove 47 = .ok (.imul, 1) := by decide +kernel
theorem dX6_remove_48 : decode cX6_remove 48 = .ok (.iload_n 2, 1) := by decide +kernel
theorem dX6_remove_49 : decode cX6_remove 49 = .ok (.iadd, 1) := by decide +kernel
theorem dX6_remove_50 : decode cX6_remove 50 = .ok (.istore 4, 2) := by decide +kernel
theorem dX6_remove_52 : decode cX6_remove 52 = .ok (.iload 4, 2) := by decide +kernel
theorem dX6_remove_54 : decode cX6_remove 54 = .ok (.iload_n 3, 1) := by decide +kernel
theorem dX6_remove_55 : decode cX6_remove 55 = .ok (.if_icmp .ge 41, 3) := by decide +kernel
theorem dX6_remove_58 : decode cX6_remove 58 = .ok (.aload_n 0, 1) := by decide +kernel
theorem dX6_remove_59 : decode cX6_remove 59 = .ok (.getfield 15, 3) := by decide +kernel
theorem dX6_remove_62 : decode cX6_remove 62 = .ok (.iload 4, 2) := by decide +kernel
theorem dX6_remove_64 : decode cX6_remove 64 = .ok (.aload_n 0, 1) := by decide +kernel
theorem dX6_remove_65 : decode cX6_remove 65 = .ok (.getfield 15, 3) := by decide +kernel
theorem dX6_remove_68 : decode cX6_remove 68 = .ok (.iload 4, 2) := by decide +kernel
theorem dX6_remove_70 : decode cX6_remove 70 = .ok (.iconst 1, 1) := by decide +kernel
theorem dX6_remove_71 : decode cX6_remove 71 = .ok (.iadd, 1) := by decide +kernel
theorem dX6_remove_72 : decode cX6_remove 72 = .ok (.iaload, 1) := by decide +kernel
theorem dX6_remove_73 : decode cX6_remove 73 = .ok (.iastore, 1) := by decide +kernel
theorem dX6_remove_74 : decode cX6_remove 74 = .ok (.aload_n 0, 1) := by decide +kernel
theorem dX6_remove_75 : decode cX6_remove 75 = .ok (.getfield 18, 3) := by decide +kernel
theorem dX6_remove_78 : decode cX6_remove 78 = .ok (.iload 4, 2) := by decide +kernel
theorem dX6_remove_80 : decode cX6_remove 80 = .ok (.aload_n 0, 1) := by decide +kernel
theorem dX6_remove_81 : decode cX6_remove 81 = .ok (.getfield 18, 3) := by decide +kernel
theorem dX6_remove_84 : decode cX6_remove 84 = .ok (.iload 4, 2) := by decide +kernel
theorem dX6_remove_86 : decode cX6_remove 86 = .ok (.iconst 1, 1) := by decide +kernel
theorem dX6_remove_87 : decode cX6_remove 87 = .ok (.iadd, 1) := by decide +kernel
theorem dX6_remove_88 : decode cX6_remove 88 = .ok (.iaload, 1) := by decide +kernel
theorem dX6_remove_89 : decode cX6_remove 89 = .ok (.iastore, 1) := by decide +kernel
theorem dX6_remove_90 : decode cX6_remove 90 = .ok (.iinc 4 1, 3) := by decide +kernel
theorem dX6_remove_93 : decode cX6_remove 93 = .ok (.goto (-41), 3) := by decide +kernel
theorem dX6_remove_96 : decode cX6_remove 96 = .ok (.return_, 1) := by decide +kernel
theorem dX7_init_0 : decode cX7_init 0 = .ok (.aload_n 0, 1) := by decide +kernel
theorem dX7_init_1 : decode cX7_init 1 = .ok (.invokespecial 3, 3) := by decide +kernel
theorem dX7_init_4 : decode cX7_init 4 = .ok (.aload_n 0, 1) := by decide +kernel
theorem dX7_init_5 : decode cX7_init 5 = .ok (.new 9, 3) := by decide +kernel
theorem dX7_init_8 : decode cX7_init 8 = .ok (.dup, 1) := by decide +kernel
theorem dX7_init_9 : decode cX7_init 9 = .ok (.bipush 12, 2) := by decide +kernel
theorem dX7_init_11 : decode cX7_init 11 = .ok (.bipush 8, 2) := by decide +kernel
theorem dX7_init_13 : decode cX7_init 13 = .ok (.invokespecial 13, 3) := by decide +kernel
theorem dX7_init_16 : decode cX7_init 16 = .ok (.putfield 16, 3) := by decide +kernel
theorem dX7_init_19 : decode cX7_init 19 = .ok (.return_, 1) := by decide +kernel
theorem dX7_copyFrom_0 : decode cX7_copyFrom 0 = .ok (.aload_n 0, 1) := by decide +kernel
theorem dX7_copyFrom_1 : decode cX7_copyFrom 1 = .ok (.getfield 16, 3) := by decide +kernel
theorem dX7_copyFrom_4 : decode cX7_copyFrom 4 = .ok (.aload_n 1, 1) := by decide +kernel
theorem dX7_copyFrom_5 : decode cX7_copyFrom 5 = .ok (.getfield 16, 3) := by decide +kernel
theorem dX7_copyFrom_8 : decode cX7_copyFrom 8 = .ok (.invokevirtual 20, 3) := by decide +kernel
theorem dX7_copyFrom_11 : decode cX7_copyFrom 11 = .ok (.return_, 1) := by decide +kernel
theorem dX7_size_0 : decode cX7_size 0 = .ok (.aload_n 0, 1) := by decide +kernel
theorem dX7_size_1 : decode cX7_size 1 = .ok (.getfield 16, 3) := by decide +kernel
theorem dX7_size_4 : decode cX7_size 4 = .ok (.invokevirtual 24, 3) := by decide +kernel
theorem dX7_size_7 : decode cX7_size 7 = .ok (.ireturn, 1) := by decide +kernel
theorem dX7_get_0 : decode cX7_get 0 = .ok (.aload_n 0, 1) := by decide +kernel
theorem dX7_get_1 : decode cX7_get 1 = .ok (.getfield 16, 3) := by decide +kernel
theorem dX7_get_4 : decode cX7_get 4 = .ok (.iload_n 1, 1) := by decide +kernel
theorem dX7_get_5 : decode cX7_get 5 = .ok (.iload_n 2, 1) := by decide +kernel
theorem dX7_get_6 : decode cX7_get 6 = .ok (.invokevirtual 28, 3) := by decide +kernel
theorem dX7_get_9 : decode cX7_get 9 = .ok (.ireturn, 1) := by decide +kernel
theorem dX7_append_0 : decode cX7_append 0 = .ok (.aload_n 0, 1) := by decide +kernel
theorem dX7_append_1 : decode cX7_append 1 = .ok (.getfield 16, 3) := by decide +kernel
theorem dX7_append_4 : decode cX7_append 4 = .ok (.invokevirtual 32, 3) := by decide +kernel
theorem dX7_append_7 : decode cX7_append 7 = .ok (.istore 5, 2) := by decide +kernel
theorem dX7_append_9 : decode cX7_append 9 = .ok (.aload_n 0, 1) := by decide +kernel
theorem dX7_append_10 : decode cX7_append 10 = .ok (.getfield 16, 3) := by decide +kernel
theorem dX7_append_13 : decode cX7_append 13 = .ok (.iload 5, 2) := by decide +kernel
theorem dX7_append_15 : decode cX7_append 15 = .ok (.iconst 0, 1) := by decide +kernel
theorem dX7_append_16 : decode cX7_append 16 = .ok (.iload_n 1, 1) := by decide +kernel
theorem dX7_append_17 : decode cX7_append 17 = .ok (.invokevirtual 35, 3) := by decide +kernel
theorem dX7_append_20 : decode cX7_append 20 = .ok (.aload_n 0, 1) := by decide +kernel
theorem dX7_append_21 : decode cX7_append 21 = .ok (.getfield 16, 3) := by decide +kernel
theorem dX7_append_24 : decode cX7_append 24 = .ok (.iload 5, 2) := by decide +kernel
theorem dX7_append_26 : decode cX7_append 26 = .ok (.iconst 1, 1) := by decide +kernel
theorem dX7_append_27 : decode cX7_append 27 = .ok (.iload_n 2, 1) := by decide +kernel
theorem dX7_append_28 : decode cX7_append 28 = .ok (.invokevirtual 35, 3) := by decide +kernel
theorem dX7_append_31 : decode cX7_append 31 = .ok (.aload_n 0, 1) := by decide +kernel
theorem dX7_append_32 : decode cX7_append 32 = .ok (.getfield 16, 3) := by decide +kernel
theorem dX7_append_35 : decode cX7_append 35 = .ok (.iload 5, 2) := by decide +kernel
theorem dX7_append_37 : decode cX7_append 37 = .ok (.iconst 2, 1) := by decide +kernel
theorem dX7_append_38 : decode cX7_append 38 = .ok (.iload_n 3, 1) := by decide +kernel
theorem dX7_append_39 : decode cX7_append 39 = .ok (.invokevirtual 35, 3) := by decide +kernel
theorem dX7_append_42 : decode cX7_append 42 = .ok (.aload_n 0, 1) := by decide +kernel
theorem dX7_append_43 : decode cX7_append 43 = .ok (.getfield 16, 3) := by decide +kernel
theorem dX7_append_46 : decode cX7_append 46 = .ok (.iload 5, 2) := by decide +kernel
theorem dX7_append_48 : decode cX7_append 48 = .ok (.iconst 3, 1) := by decide +kernel
theorem dX7_append_49 : decode cX7_append 49 = .ok (.iload 4, 2) := by decide +kernel
theorem dX7_append_51 : decode cX7_append 51 = .ok (.invokevirtual 35, 3) := by decide +kernel
theorem dX7_append_54 : decode cX7_append 54 = .ok (.aload_n 0, 1) := by decide +kernel
theorem dX7_append_55 : decode cX7_append 55 = .ok (.iload 5, 2) := by decide +kernel
theorem dX7_append_57 : decode cX7_append 57 = .ok (.iconst 0, 1) := by decide +kernel
theorem dX7_append_58 : decode cX7_append 58 = .ok (.iconst 0, 1) := by decide +kernel
theorem dX7_append_59 : decode cX7_append 59 = .ok (.iconst 0, 1) := by decide +kernel
theorem dX7_append_60 : decode cX7_append 60 = .ok (.iconst 0, 1) := by decide +kernel
theorem dX7_append_61 : decode cX7_append 61 = .ok (.invokevirtual 39, 3) := by decide +kernel
theorem dX7_append_64 : decode cX7_append 64 = .ok (.iload 5, 2) := by decide +kernel
theorem dX7_append_66 : decode cX7_append 66 = .ok (.ireturn, 1) := by decide +kernel
theorem dX7_giveDeed_0 : decode cX7_giveDeed 0 = .ok (.aload_n 0, 1) := by decide +kernel
theorem dX7_giveDeed_1 : decode cX7_giveDeed 1 = .ok (.getfield 16, 3) := by decide +kernel
theorem dX7_giveDeed_4 : decode cX7_giveDeed 4 = .ok (.iload_n 1, 1) := by decide +kernel
theorem dX7_giveDeed_5 : decode cX7_giveDeed 5 = .ok (.iconst 4, 1) := by decide +kernel
theorem dX7_giveDeed_6 : decode cX7_giveDeed 6 = .ok (.iload_n 2, 1) := by decide +kernel
theorem dX7_giveDeed_7 : decode cX7_giveDeed 7 = .ok (.invokevirtual 35, 3) := by decide +kernel
theorem dX7_giveDeed_10 : decode cX7_giveDeed 10 = .ok (.aload_n 0, 1) := by decide +kernel
theorem dX7_giveDeed_11 : decode cX7_giveDeed 11 = .ok (.getfield 16, 3) := by decide +kernel
theorem dX7_giveDeed_14 : decode cX7_giveDeed 14 = .ok (.iload_n 1, 1) := by decide +kernel
theorem dX7_giveDeed_15 : decode cX7_giveDeed 15 = .ok (.iconst 5, 1) := by decide +kernel
theorem dX7_giveDeed_16 : decode cX7_giveDeed 16 = .ok (.iload_n 3, 1) := by decide +kernel
theorem dX7_giveDeed_17 : decode cX7_giveDeed 17 = .ok (.invokevirtual 35, 3) := by decide +kernel
theorem dX7_giveDeed_20 : decode cX7_giveDeed 20 = .ok (.aload_n 0, 1) := by decide +kernel
theorem dX7_giveDeed_21 : decode cX7_giveDeed 21 = .ok (.getfield 16, 3) := by decide +kernel
theorem dX7_giveDeed_24 : decode cX7_giveDeed 24 = .ok (.iload_n 1, 1) := by decide +kernel
theorem dX7_giveDeed_25 : decode cX7_giveDeed 25 = .ok (.bipush 6, 2) := by decide +kernel
theorem dX7_giveDeed_27 : decode cX7_giveDeed 27 = .ok (.iload 4, 2) := by decide +kernel
theorem dX7_giveDeed_29 : decode cX7_giveDeed 29 = .ok (.invokevirtual 35, 3) := by decide +kernel
theorem dX7_giveDeed_32 : decode cX7_giveDeed 32 = .ok (.aload_n 0, 1) := by decide +kernel
theorem dX7_giveDeed_33 : decode cX7_giveDeed 33 = .ok (.getfield 16, 3) := by decide +kernel
theorem dX7_giveDeed_36 : decode cX7_giveDeed 36 = .ok (.iload_n 1, 1) := by decide +kernel
theorem dX7_giveDeed_37 : decode cX7_giveDeed 37 = .ok (.bipush 7, 2) := by decide +kernel
theorem dX7_giveDeed_39 : decode cX7_giveDeed 39 = .ok (.iload 5, 2) := by decide +kernel
theorem dX7_giveDeed_41 : decode cX7_giveDeed 41 = .ok (.invokevirtual 35, 3) := by decide +kernel
theorem dX7_giveDeed_44 : decode cX7_giveDeed 44 = .ok (.return_, 1) := by decide +kernel
theorem dX7_remove_0 : decode cX7_remove 0 = .ok (.aload_n 0, 1) := by decide +kernel
theorem dX7_remove_1 : decode cX7_remove 1 = .ok (.getfield 16, 3) := by decide +kernel
theorem dX7_remove_4 : decode cX7_remove 4 = .ok (.iload_n 1, 1) := by decide +kernel
theorem dX7_remove_5 : decode cX7_remove 5 = .ok (.invokevirtual 43, 3) := by decide +kernel
theorem dX7_remove_8 : decode cX7_remove 8 = .ok (.return_, 1) := by decide +kernel
theorem dX7_followers_0 : decode cX7_followers 0 = .ok (.aload_n 0, 1) := by decide +kernel
theorem dX7_followers_1 : decode cX7_followers 1 = .ok (.getfield 16, 3) := by decide +kernel
theorem dX7_followers_4 : decode cX7_followers 4 = .ok (.iload_n 1, 1) := by decide +kernel
theorem dX7_followers_5 : decode cX7_followers 5 = .ok (.iconst 5, 1) := by decide +kernel
theorem dX7_followers_6 : decode cX7_followers 6 = .ok (.invokevirtual 28, 3) := by decide +kernel
theorem dX7_followers_9 : decode cX7_followers 9 = .ok (.istore_n 2, 1) := by decide +kernel
theorem dX7_followers_10 : decode cX7_followers 10 = .ok (.aload_n 0, 1) := by decide +kernel
theorem dX7_followers_11 : decode cX7_followers 11 = .ok (.getfield 16, 3) := by decide +kernel
theorem dX7_followers_14 : decode cX7_followers 14 = .ok (.iload_n 1, 1) := by decide +kernel
theorem dX7_followers_15 : decode cX7_followers 15 = .ok (.iconst 4, 1) := by decide +kernel
theorem dX7_followers_16 : decode cX7_followers 16 = .ok (.invokevirtual 28, 3) := by decide +kernel
theorem dX7_followers_19 : decode cX7_followers 19 = .ok (.iconst 1, 1) := by decide +kernel
theorem dX7_followers_20 : decode cX7_followers 20 = .ok (.isub, 1) := by decide +kernel
theorem dX7_followers_21 : decode cX7_followers 21 = .ok (.istore_n 3, 1) := by decide +kernel
theorem dX7_followers_22 : decode cX7_followers 22 = .ok (.iconst 0, 1) := by decide +kernel
theorem dX7_followers_23 : decode cX7_followers 23 = .ok (.istore 4, 2) := by decide +kernel
theorem dX7_followers_25 : decode cX7_followers 25 = .ok (.iconst 0, 1) := by decide +kernel
theorem dX7_followers_26 : decode cX7_followers 26 = .ok (.istore 5, 2) := by decide +kernel
theorem dX7_followers_28 : decode cX7_followers 28 = .ok (.iload 5, 2) := by decide +kernel
theorem dX7_followers_30 : decode cX7_followers 30 = .ok (.aload_n 0, 1) := by decide +kernel
theorem dX7_followers_31 : decode cX7_followers 31 = .ok (.getfield 16, 3) := by decide +kernel
theorem dX7_followers_34 : decode cX7_followers 34 = .ok (.invokevirtual 24, 3) := by decide +kernel
theorem dX7_followers_37 : decode cX7_followers 37 = .ok (.if_icmp .ge 46, 3) := by decide +kernel
theorem dX7_followers_40 : decode cX7_followers 40 = .ok (.aload_n 0, 1) := by decide +kernel
theorem dX7_followers_41 : decode cX7_followers 41 = .ok (.getfield 16, 3) := by decide +kernel
theorem dX7_followers_44 : decode cX7_followers 44 = .ok (.iload 5, 2) := by decide +kernel
theorem dX7_followers_46 : decode cX7_followers 46 = .ok (.iconst 0, 1) := by decide +kernel
theorem dX7_followers_47 : decode cX7_followers 47 = .ok (.invokevirtual 28, 3) := by decide +kernel
theorem dX7_followers_50 : decode cX7_followers 50 = .ok (.iload_n 2, 1) := by decide +kernel
theorem dX7_followers_51 : decode cX7_followers 51 = .ok (.if_icmp .ne 26, 3) := by decide +kernel
theorem dX7_followers_54 : decode cX7_followers 54 = .ok (.aload_n 0, 1) := by decide +kernel
theorem dX7_followers_55 : decode cX7_followers 55 = .ok (.getfield 16, 3) := by decide +kernel
theorem dX7_followers_58 : decode cX7_followers 58 = .ok (.iload 5, 2) := by decide +kernel
theorem dX7_followers_60 : decode cX7_followers 60 = .ok (.iconst 1, 1) := by decide +kernel
theorem dX7_followers_61 : decode cX7_followers 61 = .ok (.invokevirtual 28, 3) := by decide +kernel
theorem dX7_followers_64 : decode cX7_followers 64 = .ok (.iload_n 3, 1) := by decide +kernel
theorem dX7_followers_65 : decode cX7_followers 65 = .ok (.if_icmp .ne 12, 3) := by decide +kernel
theorem dX7_followers_68 : decode cX7_followers 68 = .ok (.iload 4, 2) := by decide +kernel
theorem dX7_followers_70 : decode cX7_followers 70 = .ok (.iconst 1, 1) := by decide +kernel
theorem dX7_followers_71 : decode cX7_followers 71 = .ok (.iload 5, 2) := by decide +kernel
theorem dX7_followers_73 : decode cX7_followers 73 = .ok (.ishl, 1) := by decide +kernel
theorem dX7_followers_74 : decode cX7_followers 74 = .ok (.ior, 1) := by decide +kernel
theorem dX7_followers_75 : decode cX7_followers 75 = .ok (.istore 4, 2) := by decide +kernel
theorem dX7_followers_77 : decode cX7_followers 77 = .ok (.iinc 5 1, 3) := by decide +kernel
theorem dX7_followers_80 : decode cX7_followers 80 = .ok (.goto (-52), 3) := by decide +kernel
theorem dX7_followers_83 : decode cX7_followers 83 = .ok (.iload 4, 2) := by decide +kernel
theorem dX7_followers_85 : decode cX7_followers 85 = .ok (.ireturn, 1) := by decide +kernel
theorem dX7_couldSetOffItself_0 : decode cX7_couldSetOffItself 0 = .ok (.aload_n 0, 1) := by decide +kernel
theorem dX7_couldSetOffItself_1 : decode cX7_couldSetOffItself 1 = .ok (.iload_n 1, 1) := by decide +kernel
theorem dX7_couldSetOffItself_2 : decode cX7_couldSetOffItself 2 = .ok (.invokevirtual 47, 3) := by decide +kernel
theorem dX7_couldSetOffItself_5 : decode cX7_couldSetOffItself 5 = .ok (.istore_n 2, 1) := by decide +kernel
theorem dX7_couldSetOffItself_6 : decode cX7_couldSetOffItself 6 = .ok (.iconst 1, 1) := by decide +kernel
theorem dX7_couldSetOffItself_7 : decode cX7_couldSetOffItself 7 = .ok (.istore_n 3, 1) := by decide +kernel
theorem dX7_couldSetOffItself_8 : decode cX7_couldSetOffItself 8 = .ok (.iload_n 3, 1) := by decide +kernel
theorem dX7_couldSetOffItself_9 : decode cX7_couldSetOffItself 9 = .ok (.bipush 12, 2) := by decide +kernel
theorem dX7_couldSetOffItself_11 : decode cX7_couldSetOffItself 11 = .ok (.if_icmp .ge 17, 3) := by decide +kernel
theorem dX7_couldSetOffItself_14 : decode cX7_couldSetOffItself 14 = .ok (.iload_n 2, 1) := by decide +kernel
theorem dX7_couldSetOffItself_15 : decode cX7_couldSetOffItself 15 = .ok (.aload_n 0, 1) := by decide +kernel
theorem dX7_couldSetOffItself_16 : decode cX7_couldSetOffItself 16 = .ok (.iload_n 2, 1) := by decide +kernel
theorem dX7_couldSetOffItself_17 : decode cX7_couldSetOffItself 17 = .ok (.invokevirtual 51, 3) := by decide +kernel
theorem dX7_couldSetOffItself_20 : decode cX7_couldSetOffItself 20 = .ok (.ior, 1) := by decide +kernel
theorem dX7_couldSetOffItself_21 : decode cX7_couldSetOffItself 21 = .ok (.istore_n 2, 1) := by decide +kernel
theorem dX7_couldSetOffItself_22 : decode cX7_couldSetOffItself 22 = .ok (.iinc 3 1, 3) := by decide +kernel
theorem dX7_couldSetOffItself_25 : decode cX7_couldSetOffItself 25 = .ok (.goto (-17), 3) := by decide +kernel
theorem dX7_couldSetOffItself_28 : decode cX7_couldSetOffItself 28 = .ok (.iload_n 2, 1) := by decide +kernel
theorem dX7_couldSetOffItself_29 : decode cX7_couldSetOffItself 29 = .ok (.iload_n 1, 1) := by decide +kernel
theorem dX7_couldSetOffItself_30 : decode cX7_couldSetOffItself 30 = .ok (.invokestatic 54, 3) := by decide +kernel
theorem dX7_couldSetOffItself_33 : decode cX7_couldSetOffItself 33 = .ok (.ireturn, 1) := by decide +kernel
theorem dX7_thoseThatCouldSetOffThemselves_0 : decode cX7_thoseThatCouldSetOffThemselves 0 = .ok (.iconst 0, 1) := by decide +kernel
theorem dX7_thoseThatCouldSetOffThemselves_1 : decode cX7_thoseThatCouldSetOffThemselves 1 = .ok (.istore_n 1, 1) := by decide +kernel
theorem dX7_thoseThatCouldSetOffThemselves_2 : decode cX7_thoseThatCouldSetOffThemselves 2 = .ok (.iconst 0, 1) := by decide +kernel
theorem dX7_thoseThatCouldSetOffThemselves_3 : decode cX7_thoseThatCouldSetOffThemselves 3 = .ok (.istore_n 2, 1) := by decide +kernel
theorem dX7_thoseThatCouldSetOffThemselves_4 : decode cX7_thoseThatCouldSetOffThemselves 4 = .ok (.iload_n 2, 1) := by decide +kernel
theorem dX7_thoseThatCouldSetOffThemselves_5 : decode cX7_thoseThatCouldSetOffThemselves 5 = .ok (.aload_n 0, 1) := by decide +kernel
theorem dX7_thoseThatCouldSetOffThemselves_6 : decode cX7_thoseThatCouldSetOffThemselves 6 = .ok (.getfield 16, 3) := by decide +kernel
theorem dX7_thoseThatCouldSetOffThemselves_9 : decode cX7_thoseThatCouldSetOffThemselves 9 = .ok (.invokevirtual 24, 3) := by decide +kernel
theorem dX7_thoseThatCouldSetOffThemselves_12 : decode cX7_thoseThatCouldSetOffThemselves 12 = .ok (.if_icmp .ge 23, 3) := by decide +kernel
theorem dX7_thoseThatCouldSetOffThemselves_15 : decode cX7_thoseThatCouldSetOffThemselves 15 = .ok (.aload_n 0, 1) := by decide +kernel
theorem dX7_thoseThatCouldSetOffThemselves_16 : decode cX7_thoseThatCouldSetOffThemselves 16 = .ok (.iload_n 2, 1) := by decide +kernel
theorem dX7_thoseThatCouldSetOffThemselves_17 : decode cX7_thoseThatCouldSetOffThemselves 17 = .ok (.invokevirtual 58, 3) := by decide +kernel
theorem dX7_thoseThatCouldSetOffThemselves_20 : decode cX7_thoseThatCouldSetOffThemselves 20 = .ok (.ifCond .eq 9, 3) := by decide +kernel
theorem dX7_thoseThatCouldSetOffThemselves_23 : decode cX7_thoseThatCouldSetOffThemselves 23 = .ok (.iload_n 1, 1) := by decide +kernel
theorem dX7_thoseThatCouldSetOffThemselves_24 : decode cX7_thoseThatCouldSetOffThemselves 24 = .ok (.iconst 1, 1) := by decide +kernel
theorem dX7_thoseThatCouldSetOffThemselves_25 : decode cX7_thoseThatCouldSetOffThemselves 25 = .ok (.iload_n 2, 1) := by decide +kernel
theorem dX7_thoseThatCouldSetOffThemselves_26 : decode cX7_thoseThatCouldSetOffThemselves 26 = .ok (.ishl, 1) := by decide +kernel
theorem dX7_thoseThatCouldSetOffThemselves_27 : decode cX7_thoseThatCouldSetOffThemselves 27 = .ok (.ior, 1) := by decide +kernel
theorem dX7_thoseThatCouldSetOffThemselves_28 : decode cX7_thoseThatCouldSetOffThemselves 28 = .ok (.istore_n 1, 1) := by decide +kernel
theorem dX7_thoseThatCouldSetOffThemselves_29 : decode cX7_thoseThatCouldSetOffThemselves 29 = .ok (.iinc 2 1, 3) := by decide +kernel
theorem dX7_thoseThatCouldSetOffThemselves_32 : decode cX7_thoseThatCouldSetOffThemselves 32 = .ok (.goto (-28), 3) := by decide +kernel
theorem dX7_thoseThatCouldSetOffThemselves_35 : decode cX7_thoseThatCouldSetOffThemselves 35 = .ok (.iload_n 1, 1) := by decide +kernel
theorem dX7_thoseThatCouldSetOffThemselves_36 : decode cX7_thoseThatCouldSetOffThemselves 36 = .ok (.ireturn, 1) := by decide +kernel
theorem dX7_followersOfAll_0 : decode cX7_followersOfAll 0 = .ok (.iconst 0, 1) := by decide +kernel
theorem dX7_followersOfAll_1 : decode cX7_followersOfAll 1 = .ok (.istore_n 2, 1) := by decide +kernel
theorem dX7_followersOfAll_2 : decode cX7_followersOfAll 2 = .ok (.iconst 0, 1) := by decide +kernel
theorem dX7_followersOfAll_3 : decode cX7_followersOfAll 3 = .ok (.istore_n 3, 1) := by decide +kernel
theorem dX7_followersOfAll_4 : decode cX7_followersOfAll 4 = .ok (.iload_n 3, 1) := by decide +kernel
theorem dX7_followersOfAll_5 : decode cX7_followersOfAll 5 = .ok (.aload_n 0, 1) := by decide +kernel
theorem dX7_followersOfAll_6 : decode cX7_followersOfAll 6 = .ok (.getfield 16, 3) := by decide +kernel
theorem dX7_followersOfAll_9 : decode cX7_followersOfAll 9 = .ok (.invokevirtual 24, 3) := by decide +kernel
theorem dX7_followersOfAll_12 : decode cX7_followersOfAll 12 = .ok (.if_icmp .ge 25, 3) := by decide +kernel
theorem dX7_followersOfAll_15 : decode cX7_followersOfAll 15 = .ok (.iload_n 1, 1) := by decide +kernel
theorem dX7_followersOfAll_16 : decode cX7_followersOfAll 16 = .ok (.iload_n 3, 1) := by decide +kernel
theorem dX7_followersOfAll_17 : decode cX7_followersOfAll 17 = .ok (.invokestatic 54, 3) := by decide +kernel
theorem dX7_followersOfAll_20 : decode cX7_followersOfAll 20 = .ok (.ifCond .eq 11, 3) := by decide +kernel
theorem dX7_followersOfAll_23 : decode cX7_followersOfAll 23 = .ok (.iload_n 2, 1) := by decide +kernel
theorem dX7_followersOfAll_24 : decode cX7_followersOfAll 24 = .ok (.aload_n 0, 1) := by decide +kernel
theorem dX7_followersOfAll_25 : decode cX7_followersOfAll 25 = .ok (.iload_n 3, 1) := by decide +kernel
theorem dX7_followersOfAll_26 : decode cX7_followersOfAll 26 = .ok (.invokevirtual 47, 3) := by decide +kernel
theorem dX7_followersOfAll_29 : decode cX7_followersOfAll 29 = .ok (.ior, 1) := by decide +kernel
theorem dX7_followersOfAll_30 : decode cX7_followersOfAll 30 = .ok (.istore_n 2, 1) := by decide +kernel
theorem dX7_followersOfAll_31 : decode cX7_followersOfAll 31 = .ok (.iinc 3 1, 3) := by decide +kernel
theorem dX7_followersOfAll_34 : decode cX7_followersOfAll 34 = .ok (.goto (-30), 3) := by decide +kernel
theorem dX7_followersOfAll_37 : decode cX7_followersOfAll 37 = .ok (.iload_n 2, 1) := by decide +kernel
theorem dX7_followersOfAll_38 : decode cX7_followersOfAll 38 = .ok (.ireturn, 1) := by decide +kernel
theorem dX7_isIn_0 : decode cX7_isIn 0 = .ok (.iload_n 0, 1) := by decide +kernel
theorem dX7_isIn_1 : decode cX7_isIn 1 = .ok (.iload_n 1, 1) := by decide +kernel
theorem dX7_isIn_2 : decode cX7_isIn 2 = .ok (.ishr, 1) := by decide +kernel
theorem dX7_isIn_3 : decode cX7_isIn 3 = .ok (.iconst 1, 1) := by decide +kernel
theorem dX7_isIn_4 : decode cX7_isIn 4 = .ok (.iand, 1) := by decide +kernel
theorem dX7_isIn_5 : decode cX7_isIn 5 = .ok (.iconst 1, 1) := by decide +kernel
theorem dX7_isIn_6 : decode cX7_isIn 6 = .ok (.if_icmp .ne 7, 3) := by decide +kernel
theorem dX7_isIn_9 : decode cX7_isIn 9 = .ok (.iconst 1, 1) := by decide +kernel
theorem dX7_isIn_10 : decode cX7_isIn 10 = .ok (.goto 4, 3) := by decide +kernel
theorem dX7_isIn_13 : decode cX7_isIn 13 = .ok (.iconst 0, 1) := by decide +kernel
theorem dX7_isIn_14 : decode cX7_isIn 14 = .ok (.ireturn, 1) := by decide +kernel
theorem dX8_init_0 : decode cX8_init 0 = .ok (.aload_n 0, 1) := by decide +kernel
theorem dX8_init_1 : decode cX8_init 1 = .ok (.invokespecial 1, 3) := by decide +kernel
theorem dX8_init_4 : decode cX8_init 4 = .ok (.aload_n 0, 1) := by decide +kernel
theorem dX8_init_5 : decode cX8_init 5 = .ok (.new 7, 3) := by decide +kernel
theorem dX8_init_8 : decode cX8_init 8 = .ok (.dup, 1) := by decide +kernel
theorem dX8_init_9 : decode cX8_init 9 = .ok (.invokespecial 9, 3) := by decide +kernel
theorem dX8_init_12 : decode cX8_init 12 = .ok (.putfield 10, 3) := by decide +kernel
theorem dX8_init_15 : decode cX8_init 15 = .ok (.aload_n 0, 1) := by decide +kernel
theorem dX8_init_16 : decode cX8_init 16 = .ok (.new 16, 3) := by decide +kernel
theorem dX8_init_19 : decode cX8_init 19 = .ok (.dup, 1) := by decide +kernel
theorem dX8_init_20 : decode cX8_init 20 = .ok (.invokespecial 18, 3) := by decide +kernel
theorem dX8_init_23 : decode cX8_init 23 = .ok (.putfield 19, 3) := by decide +kernel
theorem dX8_init_26 : decode cX8_init 26 = .ok (.aload_n 0, 1) := by decide +kernel
theorem dX8_init_27 : decode cX8_init 27 = .ok (.new 23, 3) := by decide +kernel
theorem dX8_init_30 : decode cX8_init 30 = .ok (.dup, 1) := by decide +kernel
theorem dX8_init_31 : decode cX8_init 31 = .ok (.invokespecial 25, 3) := by decide +kernel
theorem dX8_init_34 : decode cX8_init 34 = .ok (.putfield 26, 3) := by decide +kernel
theorem dX8_init_37 : decode cX8_init 37 = .ok (.aload_n 0, 1) := by decide +kernel
theorem dX8_init_38 : decode cX8_init 38 = .ok (.new 30, 3) := by decide +kernel
theorem dX8_init_41 : decode cX8_init 41 = .ok (.dup, 1) := by decide +kernel
theorem dX8_init_42 : decode cX8_init 42 = .ok (.invokespecial 32, 3) := by decide +kernel
theorem dX8_init_45 : decode cX8_init 45 = .ok (.putfield 33, 3) := by decide +kernel
theorem dX8_init_48 : decode cX8_init 48 = .ok (.aload_n 0, 1) := by decide +kernel
theorem dX8_init_49 : decode cX8_init 49 = .ok (.iconst 2, 1) := by decide +kernel
theorem dX8_init_50 : decode cX8_init 50 = .ok (.anewarray 7, 3) := by decide +kernel
theorem dX8_init_53 : decode cX8_init 53 = .ok (.putfield 37, 3) := by decide +kernel
theorem dX8_init_56 : decode cX8_init 56 = .ok (.return_, 1) := by decide +kernel
theorem dX8_set_0 : decode cX8_set 0 = .ok (.iload_n 1, 1) := by decide +kernel
theorem dX8_set_1 : decode cX8_set 1 = .ok (.ifCond .ne 41, 3) := by decide +kernel
theorem dX8_set_4 : decode cX8_set 4 = .ok (.iload_n 2, 1) := by decide +kernel
theorem dX8_set_5 : decode cX8_set 5 = .ok (.bipush 9, 2) := by decide +kernel
theorem dX8_set_7 : decode cX8_set 7 = .ok (.invokestatic 41, 3) := by decide +kernel
theorem dX8_set_10 : decode cX8_set 10 = .ok (.ifCond .eq 32, 3) := by decide +kernel
theorem dX8_set_13 : decode cX8_set 13 = .ok (.aload_n 0, 1) := by decide +kernel
theorem dX8_set_14 : decode cX8_set 14 = .ok (.getfield 33, 3) := by decide +kernel
theorem dX8_set_17 : decode cX8_set 17 = .ok (.aload_n 0, 1) := by decide +kernel
theorem dX8_set_18 : decode cX8_set 18 = .ok (.getfield 10, 3) := by decide +kernel
theorem dX8_set_21 : decode cX8_set 21 = .ok (.invokevirtual 45, 3) := by decide +kernel
theorem dX8_set_24 : decode cX8_set 24 = .ok (.aload_n 0, 1) := by decide +kernel
theorem dX8_set_25 : decode cX8_set 25 = .ok (.getfield 10, 3) := by decide +kernel
theorem dX8_set_28 : decode cX8_set 28 = .ok (.getfield 49, 3) := by decide +kernel
theorem dX8_set_31 : decode cX8_set 31 = .ok (.istore_n 3, 1) := by decide +kernel
theorem dX8_set_32 : decode cX8_set 32 = .ok (.aload_n 0, 1) := by decide +kernel
theorem dX8_set_33 : decode cX8_set 33 = .ok (.getfield 10, 3) := by decide +kernel
theorem dX8_set_36 : decode cX8_set 36 = .ok (.iload_n 2, 1) := by decide +kernel
theorem dX8_set_37 : decode cX8_set 37 = .ok (.putfield 49, 3) := by decide +kernel
theorem dX8_set_40 : decode cX8_set 40 = .ok (.iload_n 3, 1) := by decide +kernel
theorem dX8_set_41 : decode cX8_set 41 = .ok (.ireturn, 1) := by decide +kernel
theorem dX8_set_42 : decode cX8_set 42 = .ok (.iload_n 1, 1) := by decide +kernel
theorem dX8_set_43 : decode cX8_set 43 = .ok (.iconst 1, 1) := by decide +kernel
theorem dX8_set_44 : decode cX8_set 44 = .ok (.if_icmp .ne 40, 3) := by decide +kernel
theorem dX8_set_47 : decode cX8_set 47 = .ok (.iload_n 2, 1) := by decide +kernel
theorem dX8_set_48 : decode cX8_set 48 = .ok (.iconst 2, 1) := by decide +kernel
theorem dX8_set_49 : decode cX8_set 49 = .ok (.invokestatic 41, 3) := by decide +kernel
theorem dX8_set_52 : decode cX8_set 52 = .ok (.ifCond .eq 32, 3) := by decide +kernel
theorem dX8_set_55 : decode cX8_set 55 = .ok (.aload_n 0, 1) := by decide +kernel
theorem dX8_set_56 : decode cX8_set 56 = .ok (.getfield 33, 3) := by decide +kernel
theorem dX8_set_59 : decode cX8_set 59 = .ok (.aload_n 0, 1) := by decide +kernel
theorem dX8_set_60 : decode cX8_set 60 = .ok (.getfield 10, 3) := by decide +kernel
theorem dX8_set_63 : decode cX8_set 63 = .ok (.invokevirtual 45, 3) := by decide +kernel
theorem dX8_set_66 : decode cX8_set 66 = .ok (.aload_n 0, 1) := by decide +kernel
theorem dX8_set_67 : decode cX8_set 67 = .ok (.getfield 10, 3) := by decide +kernel
theorem dX8_set_70 : decode cX8_set 70 = .ok (.getfield 53, 3) := by decide +kernel
theorem dX8_set_73 : decode cX8_set 73 = .ok (.istore_n 3, 1) := by decide +kernel
theorem dX8_set_74 : decode cX8_set 74 = .ok (.aload_n 0, 1) := by decide +kernel
theorem dX8_set_75 : decode cX8_set 75 = .ok (.getfield 10, 3) := by decide +kernel
theorem dX8_set_78 : decode cX8_set 78 = .ok (.iload_n 2, 1) := by decide +kernel
theorem dX8_set_79 : decode cX8_set 79 = .ok (.putfield 53, 3) := by decide +kernel
theorem dX8_set_82 : decode cX8_set 82 = .ok (.iload_n 3, 1) := by decide +kernel
theorem dX8_set_83 : decode cX8_set 83 = .ok (.ireturn, 1) := by decide +kernel
theorem dX8_set_84 : decode cX8_set 84 = .ok (.bipush (-2), 2) := by decide +kernel
theorem dX8_set_86 : decode cX8_set 86 = .ok (.ireturn, 1) := by decide +kernel
theorem dX8_trigger_0 : decode cX8_trigger 0 = .ok (.iload_n 1, 1) := by decide +kernel
theorem dX8_trigger_1 : decode cX8_trigger 1 = .ok (.iconst 4, 1) := by decide +kernel
theorem dX8_trigger_2 : decode cX8_trigger 2 = .ok (.invokestatic 41, 3) := by decide +kernel
theorem dX8_trigger_5 : decode cX8_trigger 5 = .ok (.ifCond .ne 5, 3) := by decide +kernel
theorem dX8_trigger_8 : decode cX8_trigger 8 = .ok (.iconst (-1), 1) := by decide +kernel
theorem dX8_trigger_9 : decode cX8_trigger 9 = .ok (.ireturn, 1) := by decide +kernel
theorem dX8_trigger_10 : decode cX8_trigger 10 = .ok (.iload_n 2, 1) := by decide +kernel
theorem dX8_trigger_11 : decode cX8_trigger 11 = .ok (.iconst 3, 1) := by decide +kernel
theorem dX8_trigger_12 : decode cX8_trigger 12 = .ok (.invokestatic 41, 3) := by decide +kernel
theorem dX8_trigger_15 : decode cX8_trigger 15 = .ok (.ifCond .eq 22, 3) := by decide +kernel
theorem dX8_trigger_18 : decode cX8_trigger 18 = .ok (.iload_n 3, 1) := by decide +kernel
theorem dX8_trigger_19 : decode cX8_trigger 19 = .ok (.iconst 3, 1) := by decide +kernel
theorem dX8_trigger_20 : decode cX8_trigger 20 = .ok (.invokestatic 41, 3) := by decide +kernel
theorem dX8_trigger_23 : decode cX8_trigger 23 = .ok (.ifCond .eq 14, 3) := by decide +kernel
theorem dX8_trigger_26 : decode cX8_trigger 26 = .ok (.iload 4, 2) := by decide +kernel
theorem dX8_trigger_28 : decode cX8_trigger 28 = .ok (.sipush 1000, 3) := by decide +kernel
theorem dX8_trigger_31 : decode cX8_trigger 31 = .ok (.invokestatic 41, 3) := by decide +kernel
theorem dX8_trigger_34 : decode cX8_trigger 34 = .ok (.ifCond .ne 6, 3) := by decide +kernel
theorem dX8_trigger_37 : decode cX8_trigger 37 = .ok (.bipush (-2), 2) := by decide +kernel
theorem dX8_trigger_39 : decode cX8_trigger 39 = .ok (.ireturn, 1) := by decide +kernel
theorem dX8_trigger_40 : decode cX8_trigger 40 = .ok (.aload_n 0, 1) := by decide +kernel
theorem dX8_trigger_41 : decode cX8_trigger 41 = .ok (.getfield 10, 3) := by decide +kernel
theorem dX8_trigger_44 : decode cX8_trigger 44 = .ok (.getfield 56, 3) := by decide +kernel
theorem dX8_trigger_47 : decode cX8_trigger 47 = .ok (.invokevirtual 60, 3) := by decide +kernel
theorem dX8_trigger_50 : decode cX8_trigger 50 = .ok (.bipush 12, 2) := by decide +kernel
theorem dX8_trigger_52 : decode cX8_trigger 52 = .ok (.if_icmp .lt 6, 3) := by decide +kernel
theorem dX8_trigger_55 : decode cX8_trigger 55 = .ok (.bipush (-4), 2) := by decide +kernel
theorem dX8_trigger_57 : decode cX8_trigger 57 = .ok (.ireturn, 1) := by decide +kernel
theorem dX8_trigger_58 : decode cX8_trigger 58 = .ok (.aload_n 0, 1) := by decide +kernel
theorem dX8_trigger_59 : decode cX8_trigger 59 = .ok (.getfield 33, 3) := by decide +kernel
theorem dX8_trigger_62 : decode cX8_trigger 62 = .ok (.aload_n 0, 1) := by decide +kernel
theorem dX8_trigger_63 : decode cX8_trigger 63 = .ok (.getfield 10, 3) := by decide +kernel
theorem dX8_trigger_66 : decode cX8_trigger 66 = .ok (.invokevirtual 45, 3) := by decide +kernel
theorem dX8_trigger_69 : decode cX8_trigger 69 = .ok (.aload_n 0, 1) := by decide +kernel
theorem dX8_trigger_70 : decode cX8_trigger 70 = .ok (.getfield 10, 3) := by decide +kernel
theorem dX8_trigger_73 : decode cX8_trigger 73 = .ok (.getfield 56, 3) := by decide +kernel
theorem dX8_trigger_76 : decode cX8_trigger 76 = .ok (.iload_n 1, 1) := by decide +kernel
theorem dX8_trigger_77 : decode cX8_trigger 77 = .ok (.iload_n 2, 1) := by decide +kernel
theorem dX8_trigger_78 : decode cX8_trigger 78 = .ok (.iload_n 3, 1) := by decide +kernel
theorem dX8_trigger_79 : decode cX8_trigger 79 = .ok (.iload 4, 2) := by decide +kernel
theorem dX8_trigger_81 : decode cX8_trigger 81 = .ok (.invokevirtual 66, 3) := by decide +kernel
theorem dX8_trigger_84 : decode cX8_trigger 84 = .ok (.ireturn, 1) := by decide +kernel
theorem dX8_deed_0 : decode cX8_deed 0 = .ok (.iload_n 1, 1) := by decide +kernel
theorem dX8_deed_1 : decode cX8_deed 1 = .ok (.aload_n 0, 1) := by decide +kernel
theorem dX8_deed_2 : decode cX8_deed 2 = .ok (.getfield 10, 3) := by decide +kernel
theorem dX8_deed_5 : decode cX8_deed 5 = .ok (.getfield 56, 3) := by decide +kernel
theorem dX8_deed_8 : decode cX8_deed 8 = .ok (.invokevirtual 60, 3) := by decide +kernel
theorem dX8_deed_11 : decode cX8_deed 11 = .ok (.invokestatic 41, 3) := by decide +kernel
theorem dX8_deed_14 : decode cX8_deed 14 = .ok (.ifCond .eq 11, 3) := by decide +kernel
theorem dX8_deed_17 : decode cX8_deed 17 = .ok (.iload_n 3, 1) := by decide +kernel
theorem dX8_deed_18 : decode cX8_deed 18 = .ok (.iconst 4, 1) := by decide +kernel
theorem dX8_deed_19 : decode cX8_deed 19 = .ok (.invokestatic 41, 3) := by decide +kernel
theorem dX8_deed_22 : decode cX8_deed 22 = .ok (.ifCond .ne 5, 3) := by decide +kernel
theorem dX8_deed_25 : decode cX8_deed 25 = .ok (.iconst (-1), 1) := by decide +kernel
theorem dX8_deed_26 : decode cX8_deed 26 = .ok (.ireturn, 1) := by decide +kernel
theorem dX8_deed_27 : decode cX8_deed 27 = .ok (.iload_n 2, 1) := by decide +kernel
theorem dX8_deed_28 : decode cX8_deed 28 = .ok (.iconst 4, 1) := by decide +kernel
theorem dX8_deed_29 : decode cX8_deed 29 = .ok (.invokestatic 41, 3) := by decide +kernel
theorem dX8_deed_32 : decode cX8_deed 32 = .ok (.ifCond .eq 24, 3) := by decide +kernel
theorem dX8_deed_35 : decode cX8_deed 35 = .ok (.iload 4, 2) := by decide +kernel
theorem dX8_deed_37 : decode cX8_deed 37 = .ok (.bipush 100, 2) := by decide +kernel
theorem dX8_deed_39 : decode cX8_deed 39 = .ok (.invokestatic 41, 3) := by decide +kernel
theorem dX8_deed_42 : decode cX8_deed 42 = .ok (.ifCond .eq 14, 3) := by decide +kernel
theorem dX8_deed_45 : decode cX8_deed 45 = .ok (.iload 5, 2) := by decide +kernel
theorem dX8_deed_47 : decode cX8_deed 47 = .ok (.sipush 1000, 3) := by decide +kernel
theorem dX8_deed_50 : decode cX8_deed 50 = .ok (.invokestatic 41, 3) := by decide +kernel
theorem dX8_deed_53 : decode cX8_deed 53 = .ok (.ifCond .ne 6, 3) := by decide +kernel
theorem dX8_deed_56 : decode cX8_deed 56 = .ok (.bipush (-2), 2) := by decide +kernel
theorem dX8_deed_58 : decode cX8_deed 58 = .ok (.ireturn, 1) := by decide +kernel
theorem dX8_deed_59 : decode cX8_deed 59 = .ok (.aload_n 0, 1) := by decide +kernel
theorem dX8_deed_60 : decode cX8_deed 60 = .ok (.getfield 33, 3) := by decide +kernel
theorem dX8_deed_63 : decode cX8_deed 63 = .ok (.aload_n 0, 1) := by decide +kernel
theorem dX8_deed_64 : decode cX8_deed 64 = .ok (.getfield 10, 3) := by decide +kernel
theorem dX8_deed_67 : decode cX8_deed 67 = .ok (.invokevirtual 45, 3) := by decide +kernel
theorem dX8_deed_70 : decode cX8_deed 70 = .ok (.aload_n 0, 1) := by decide +kernel
theorem dX8_deed_71 : decode cX8_deed 71 = .ok (.getfield 10, 3) := by decide +kernel
theorem dX8_deed_74 : decode cX8_deed 74 = .ok (.getfield 56, 3) := by decide +kernel
theorem dX8_deed_77 : decode cX8_deed 77 = .ok (.iload_n 1, 1) := by decide +kernel
theorem dX8_deed_78 : decode cX8_deed 78 = .ok (.iconst 4, 1) := by decide +kernel
theorem dX8_deed_79 : decode cX8_deed 79 = .ok (.invokevirtual 70, 3) := by decide +kernel
theorem dX8_deed_82 : decode cX8_deed 82 = .ok (.istore 6, 2) := by decide +kernel
theorem dX8_deed_84 : decode cX8_deed 84 = .ok (.aload_n 0, 1) := by decide +kernel
theorem dX8_deed_85 : decode cX8_deed 85 = .ok (.getfield 10, 3) := by decide +kernel
theorem dX8_deed_88 : decode cX8_deed 88 = .ok (.getfield 56, 3) := by decide +kernel
theorem dX8_deed_91 : decode cX8_deed 91 = .ok (.iload_n 1, 1) := by decide +kernel
theorem dX8_deed_92 : decode cX8_deed 92 = .ok (.iload_n 2, 1) := by decide +kernel
theorem dX8_deed_93 : decode cX8_deed 93 = .ok (.iload_n 3, 1) := by decide +kernel
theorem dX8_deed_94 : decode cX8_deed 94 = .ok (.iload 4, 2) := by decide +kernel
theorem dX8_deed_96 : decode cX8_deed 96 = .ok (.iload 5, 2) := by decide +kernel
theorem dX8_deed_98 : decode cX8_deed 98 = .ok (.invokevirtual 74, 3) := by decide +kernel
theorem dX8_deed_101 : decode cX8_deed 101 = .ok (.iload 6, 2) := by decide +kernel
theorem dX8_deed_103 : decode cX8_deed 103 = .ok (.ireturn, 1) := by decide +kernel
theorem dX8_dropTrigger_0 : decode cX8_dropTrigger 0 = .ok (.iload_n 1, 1) := by decide +kernel
theorem dX8_dropTrigger_1 : decode cX8_dropTrigger 1 = .ok (.aload_n 0, 1) := by decide +kernel
theorem dX8_dropTrigger_2 : decode cX8_dropTrigger 2 = .ok (.getfield 10, 3) := by decide +kernel
theorem dX8_dropTrigger_5 : decode cX8_dropTrigger 5 = .ok (.getfield 56, 3) := by decide +kernel
theorem dX8_dropTrigger_8 : decode cX8_dropTrigger 8 = .ok (.invokevirtual 60, 3) := by decide +kernel
theorem dX8_dropTrigger_11 : decode cX8_dropTrigger 11 = .ok (.invokestatic 41, 3) := by decide +kernel
theorem dX8_dropTrigger_14 : decode cX8_dropTrigger 14 = .ok (.ifCond .ne 5, 3) := by decide +kernel
theorem dX8_dropTrigger_17 : decode cX8_dropTrigger 17 = .ok (.iconst (-1), 1) := by decide +kernel
theorem dX8_dropTrigger_18 : decode cX8_dropTrigger 18 = .ok (.ireturn, 1) := by decide +kernel
theorem dX8_dropTrigger_19 : decode cX8_dropTrigger 19 = .ok (.aload_n 0, 1) := by decide +kernel
theorem dX8_dropTrigger_20 : decode cX8_dropTrigger 20 = .ok (.getfield 33, 3) := by decide +kernel
theorem dX8_dropTrigger_23 : decode cX8_dropTrigger 23 = .ok (.aload_n 0, 1) := by decide +kernel
theorem dX8_dropTrigger_24 : decode cX8_dropTrigger 24 = .ok (.getfield 10, 3) := by decide +kernel
theorem dX8_dropTrigger_27 : decode cX8_dropTrigger 27 = .ok (.invokevirtual 45, 3) := by decide +kernel
theorem dX8_dropTrigger_30 : decode cX8_dropTrigger 30 = .ok (.aload_n 0, 1) := by decide +kernel
theorem dX8_dropTrigger_31 : decode cX8_dropTrigger 31 = .ok (.getfield 10, 3) := by decide +kernel
theorem dX8_dropTrigger_34 : decode cX8_dropTrigger 34 = .ok (.getfield 56, 3) := by decide +kernel
theorem dX8_dropTrigger_37 : decode cX8_dropTrigger 37 = .ok (.iload_n 1, 1) := by decide +kernel
theorem dX8_dropTrigger_38 : decode cX8_dropTrigger 38 = .ok (.invokevirtual 78, 3) := by decide +kernel
theorem dX8_dropTrigger_41 : decode cX8_dropTrigger 41 = .ok (.aload_n 0, 1) := by decide +kernel
theorem dX8_dropTrigger_42 : decode cX8_dropTrigger 42 = .ok (.getfield 10, 3) := by decide +kernel
theorem dX8_dropTrigger_45 : decode cX8_dropTrigger 45 = .ok (.getfield 56, 3) := by decide +kernel
theorem dX8_dropTrigger_48 : decode cX8_dropTrigger 48 = .ok (.invokevirtual 60, 3) := by decide +kernel
theorem dX8_dropTrigger_51 : decode cX8_dropTrigger 51 = .ok (.ireturn, 1) := by decide +kernel
theorem dX8_state_0 : decode cX8_state 0 = .ok (.iload_n 1, 1) := by decide +kernel
theorem dX8_state_1 : decode cX8_state 1 = .ok (.iload_n 2, 1) := by decide +kernel
theorem dX8_state_2 : decode cX8_state 2 = .ok (.iload_n 3, 1) := by decide +kernel
theorem dX8_state_3 : decode cX8_state 3 = .ok (.iload 4, 2) := by decide +kernel
theorem dX8_state_5 : decode cX8_state 5 = .ok (.invokestatic 82, 3) := by decide +kernel
theorem dX8_state_8 : decode cX8_state 8 = .ok (.istore 5, 2) := by decide +kernel
theorem dX8_state_10 : decode cX8_state 10 = .ok (.iload 5, 2) := by decide +kernel
theorem dX8_state_12 : decode cX8_state 12 = .ok (.ifCond .eq 6, 3) := by decide +kernel
theorem dX8_state_15 : decode cX8_state 15 = .ok (.iload 5, 2) := by decide +kernel
theorem dX8_state_17 : decode cX8_state 17 = .ok (.ireturn, 1) := by decide +kernel
theorem dX8_state_18 : decode cX8_state 18 = .ok (.aload_n 0, 1) := by decide +kernel
theorem dX8_state_19 : decode cX8_state 19 = .ok (.getfield 19, 3) := by decide +kernel
theorem dX8_state_22 : decode cX8_state 22 = .ok (.aload_n 0, 1) := by decide +kernel
theorem dX8_state_23 : decode cX8_state 23 = .ok (.getfield 10, 3) := by decide +kernel
theorem dX8_state_26 : decode cX8_state 26 = .ok (.iload_n 1, 1) := by decide +kernel
theorem dX8_state_27 : decode cX8_state 27 = .ok (.iload_n 2, 1) := by decide +kernel
theorem dX8_state_28 : decode cX8_state 28 = .ok (.iload_n 3, 1) := by decide +kernel
theorem dX8_state_29 : decode cX8_state 29 = .ok (.iload 4, 2) := by decide +kernel
theorem dX8_state_31 : decode cX8_state 31 = .ok (.aload_n 0, 1) := by decide +kernel
theorem dX8_state_32 : decode cX8_state 32 = .ok (.getfield 10, 3) := by decide +kernel
theorem dX8_state_35 : decode cX8_state 35 = .ok (.getfield 49, 3) := by decide +kernel
theorem dX8_state_38 : decode cX8_state 38 = .ok (.iconst (-1), 1) := by decide +kernel
theorem dX8_state_39 : decode cX8_state 39 = .ok (.invokevirtual 85, 3) := by decide +kernel
theorem dX8_state_42 : decode cX8_state 42 = .ok (.aload_n 0, 1) := by decide +kernel
theorem dX8_state_43 : decode cX8_state 43 = .ok (.getfield 19, 3) := by decide +kernel
theorem dX8_state_46 : decode cX8_state 46 = .ok (.getfield 89, 3) := by decide +kernel
theorem dX8_state_49 : decode cX8_state 49 = .ok (.invokevirtual 93, 3) := by decide +kernel
theorem dX8_state_52 : decode cX8_state 52 = .ok (.ifCond .eq 6, 3) := by decide +kernel
theorem dX8_state_55 : decode cX8_state 55 = .ok (.bipush (-5), 2) := by decide +kernel
theorem dX8_state_57 : decode cX8_state 57 = .ok (.ireturn, 1) := by decide +kernel
theorem dX8_state_58 : decode cX8_state 58 = .ok (.aload_n 0, 1) := by decide +kernel
theorem dX8_state_59 : decode cX8_state 59 = .ok (.getfield 33, 3) := by decide +kernel
theorem dX8_state_62 : decode cX8_state 62 = .ok (.aload_n 0, 1) := by decide +kernel
theorem dX8_state_63 : decode cX8_state 63 = .ok (.getfield 10, 3) := by decide +kernel
theorem dX8_state_66 : decode cX8_state 66 = .ok (.invokevirtual 45, 3) := by decide +kernel
theorem dX8_state_69 : decode cX8_state 69 = .ok (.aload_n 0, 1) := by decide +kernel
theorem dX8_state_70 : decode cX8_state 70 = .ok (.invokevirtual 99, 3) := by decide +kernel
theorem dX8_state_73 : decode cX8_state 73 = .ok (.aload_n 0, 1) := by decide +kernel
theorem dX8_state_74 : decode cX8_state 74 = .ok (.getfield 10, 3) := by decide +kernel
theorem dX8_state_77 : decode cX8_state 77 = .ok (.getfield 102, 3) := by decide +kernel
theorem dX8_state_80 : decode cX8_state 80 = .ok (.invokevirtual 106, 3) := by decide +kernel
theorem dX8_state_83 : decode cX8_state 83 = .ok (.ireturn, 1) := by decide +kernel
theorem dX8_tried_0 : decode cX8_tried 0 = .ok (.iload_n 1, 1) := by decide +kernel
theorem dX8_tried_1 : decode cX8_tried 1 = .ok (.iload_n 2, 1) := by decide +kernel
theorem dX8_tried_2 : decode cX8_tried 2 = .ok (.iload_n 3, 1) := by decide +kernel
theorem dX8_tried_3 : decode cX8_tried 3 = .ok (.iload 4, 2) := by decide +kernel
theorem dX8_tried_5 : decode cX8_tried 5 = .ok (.invokestatic 82, 3) := by decide +kernel
theorem dX8_tried_8 : decode cX8_tried 8 = .ok (.istore 6, 2) := by decide +kernel
theorem dX8_tried_10 : decode cX8_tried 10 = .ok (.iload 6, 2) := by decide +kernel
theorem dX8_tried_12 : decode cX8_tried 12 = .ok (.ifCond .eq 6, 3) := by decide +kernel
theorem dX8_tried_15 : decode cX8_tried 15 = .ok (.iload 6, 2) := by decide +kernel
theorem dX8_tried_17 : decode cX8_tried 17 = .ok (.ireturn, 1) := by decide +kernel
theorem dX8_tried_18 : decode cX8_tried 18 = .ok (.iload 5, 2) := by decide +kernel
theorem dX8_tried_20 : decode cX8_tried 20 = .ok (.bipush 21, 2) := by decide +kernel
theorem dX8_tried_22 : decode cX8_tried 22 = .ok (.invokestatic 41, 3) := by decide +kernel
theorem dX8_tried_25 : decode cX8_tried 25 = .ok (.ifCond .ne 6, 3) := by decide +kernel
theorem dX8_tried_28 : decode cX8_tried 28 = .ok (.bipush (-2), 2) := by decide +kernel
theorem dX8_tried_30 : decode cX8_tried 30 = .ok (.ireturn, 1) := by decide +kernel
theorem dX8_tried_31 : decode cX8_tried 31 = .ok (.aload_n 0, 1) := by decide +kernel
theorem dX8_tried_32 : decode cX8_tried 32 = .ok (.getfield 19, 3) := by decide +kernel
theorem dX8_tried_35 : decode cX8_tried 35 = .ok (.aload_n 0, 1) := by decide +kernel
theorem dX8_tried_36 : decode cX8_tried 36 = .ok (.getfield 10, 3) := by decide +kernel
theorem dX8_tried_39 : decode cX8_tried 39 = .ok (.iload_n 1, 1) := by decide +kernel
theorem dX8_tried_40 : decode cX8_tried 40 = .ok (.iload_n 2, 1) := by decide +kernel
theorem dX8_tried_41 : decode cX8_tried 41 = .ok (.iload_n 3, 1) := by decide +kernel
theorem dX8_tried_42 : decode cX8_tried 42 = .ok (.iload 4, 2) := by decide +kernel
theorem dX8_tried_44 : decode cX8_tried 44 = .ok (.aload_n 0, 1) := by decide +kernel
theorem dX8_tried_45 : decode cX8_tried 45 = .ok (.getfield 10, 3) := by decide +kernel
theorem dX8_tried_48 : decode cX8_tried 48 = .ok (.getfield 49, 3) := by decide +kernel
theorem dX8_tried_51 : decode cX8_tried 51 = .ok (.iconst (-1), 1) := by decide +kernel
theorem dX8_tried_52 : decode cX8_tried 52 = .ok (.invokevirtual 85, 3) := by decide +kernel
theorem dX8_tried_55 : decode cX8_tried 55 = .ok (.aload_n 0, 1) := by decide +kernel
theorem dX8_tried_56 : decode cX8_tried 56 = .ok (.getfield 19, 3) := by decide +kernel
theorem dX8_tried_59 : decode cX8_tried 59 = .ok (.getfield 89, 3) := by decide +kernel
theorem dX8_tried_62 : decode cX8_tried 62 = .ok (.astore 7, 2) := by decide +kernel
theorem dX8_tried_64 : decode cX8_tried 64 = .ok (.iload 5, 2) := by decide +kernel
theorem dX8_tried_66 : decode cX8_tried 66 = .ok (.tableswitch 120 0 7 #[46, 52, 75, 86, 94, 102, 108, 114], 46) := by decide +kernel
theorem dX8_tried_112 : decode cX8_tried 112 = .ok (.aload 7, 2) := by decide +kernel
theorem dX8_tried_114 : decode cX8_tried 114 = .ok (.getfield 109, 3) := by decide +kernel
theorem dX8_tried_117 : decode cX8_tried 117 = .ok (.ireturn, 1) := by decide +kernel
theorem dX8_tried_118 : decode cX8_tried 118 = .ok (.aload 7, 2) := by decide +kernel
theorem dX8_tried_120 : decode cX8_tried 120 = .ok (.invokevirtual 93, 3) := by decide +kernel
theorem dX8_tried_123 : decode cX8_tried 123 = .ok (.ifCond .eq 7, 3) := by decide +kernel
theorem dX8_tried_126 : decode cX8_tried 126 = .ok (.iconst 0, 1) := by decide +kernel
theorem dX8_tried_127 : decode cX8_tried 127 = .ok (.goto 13, 3) := by decide +kernel
theorem dX8_tried_130 : decode cX8_tried 130 = .ok (.aload_n 0, 1) := by decide +kernel
theorem dX8_tried_131 : decode cX8_tried 131 = .ok (.getfield 19, 3) := by decide +kernel
theorem dX8_tried_134 : decode cX8_tried 134 = .ok (.getfield 112, 3) := by decide +kernel
theorem dX8_tried_137 : decode cX8_tried 137 = .ok (.invokevirtual 106, 3) := by decide +kernel
theorem dX8_tried_140 : decode cX8_tried 140 = .ok (.ireturn, 1) := by decide +kernel
theorem dX8_tried_141 : decode cX8_tried 141 = .ok (.aload_n 0, 1) := by decide +kernel
theorem dX8_tried_142 : decode cX8_tried 142 = .ok (.getfield 19, 3) := by decide +kernel
theorem dX8_tried_145 : decode cX8_tried 145 = .ok (.getfield 113, 3) := by decide +kernel
theorem dX8_tried_148 : decode cX8_tried 148 = .ok (.invokevirtual 106, 3) := by decide +kernel
theorem dX8_tried_151 : decode cX8_tried 151 = .ok (.ireturn, 1) := by decide +kernel
theorem dX8_tried_152 : decode cX8_tried 152 = .ok (.aload_n 0, 1) := by decide +kernel
theorem dX8_tried_153 : decode cX8_tried 153 = .ok (.getfield 19, 3) := by decide +kernel
theorem dX8_tried_156 : decode cX8_tried 156 = .ok (.getfield 116, 3) := by decide +kernel
theorem dX8_tried_159 : decode cX8_tried 159 = .ok (.ireturn, 1) := by decide +kernel
theorem dX8_tried_160 : decode cX8_tried 160 = .ok (.aload_n 0, 1) := by decide +kernel
theorem dX8_tried_161 : decode cX8_tried 161 = .ok (.getfield 19, 3) := by decide +kernel
theorem dX8_tried_164 : decode cX8_tried 164 = .ok (.invokevirtual 119, 3) := by decide +kernel
theorem dX8_tried_167 : decode cX8_tried 167 = .ok (.ireturn, 1) := by decide +kernel
theorem dX8_tried_168 : decode cX8_tried 168 = .ok (.aload 7, 2) := by decide +kernel
theorem dX8_tried_170 : decode cX8_tried 170 = .ok (.getfield 122, 3) := by decide +kernel
theorem dX8_tried_173 : decode cX8_tried 173 = .ok (.ireturn, 1) := by decide +kernel
theorem dX8_tried_174 : decode cX8_tried 174 = .ok (.aload 7, 2) := by decide +kernel
theorem dX8_tried_176 : decode cX8_tried 176 = .ok (.getfield 125, 3) := by decide +kernel
theorem dX8_tried_179 : decode cX8_tried 179 = .ok (.ireturn, 1) := by decide +kernel
theorem dX8_tried_180 : decode cX8_tried 180 = .ok (.aload 7, 2) := by decide +kernel
theorem dX8_tried_182 : decode cX8_tried 182 = .ok (.getfield 128, 3) := by decide +kernel
theorem dX8_tried_185 : decode cX8_tried 185 = .ok (.ireturn, 1) := by decide +kernel
theorem dX8_tried_186 : decode cX8_tried 186 = .ok (.aload 7, 2) := by decide +kernel
theorem dX8_tried_188 : decode cX8_tried 188 = .ok (.iload 5, 2) := by decide +kernel
theorem dX8_tried_190 : decode cX8_tried 190 = .ok (.bipush 8, 2) := by decide +kernel
theorem dX8_tried_192 : decode cX8_tried 192 = .ok (.isub, 1) := by decide +kernel
theorem dX8_tried_193 : decode cX8_tried 193 = .ok (.invokevirtual 131, 3) := by decide +kernel
theorem dX8_tried_196 : decode cX8_tried 196 = .ok (.ireturn, 1) := by decide +kernel
theorem dX8_row_0 : decode cX8_row 0 = .ok (.iload_n 1, 1) := by decide +kernel
theorem dX8_row_1 : decode cX8_row 1 = .ok (.iconst 4, 1) := by decide +kernel
theorem dX8_row_2 : decode cX8_row 2 = .ok (.invokestatic 41, 3) := by decide +kernel
theorem dX8_row_5 : decode cX8_row 5 = .ok (.ifCond .eq 21, 3) := by decide +kernel
theorem dX8_row_8 : decode cX8_row 8 = .ok (.iload_n 2, 1) := by decide +kernel
theorem dX8_row_9 : decode cX8_row 9 = .ok (.aload_n 0, 1) := by decide +kernel
theorem dX8_row_10 : decode cX8_row 10 = .ok (.getfield 10, 3) := by decide +kernel
theorem dX8_row_13 : decode cX8_row 13 = .ok (.getfield 135, 3) := by decide +kernel
theorem dX8_row_16 : decode cX8_row 16 = .ok (.iload_n 1, 1) := by decide +kernel
theorem dX8_row_17 : decode cX8_row 17 = .ok (.invokevirtual 139, 3) := by decide +kernel
theorem dX8_row_20 : decode cX8_row 20 = .ok (.invokestatic 41, 3) := by decide +kernel
theorem dX8_row_23 : decode cX8_row 23 = .ok (.ifCond .ne 5, 3) := by decide +kernel
theorem dX8_row_26 : decode cX8_row 26 = .ok (.iconst (-1), 1) := by decide +kernel
theorem dX8_row_27 : decode cX8_row 27 = .ok (.ireturn, 1) := by decide +kernel
theorem dX8_row_28 : decode cX8_row 28 = .ok (.iload_n 3, 1) := by decide +kernel
theorem dX8_row_29 : decode cX8_row 29 = .ok (.lookupswitch 53 #[(0, 27), (1, 40)], 27) := by decide +kernel
theorem dX8_row_56 : decode cX8_row 56 = .ok (.aload_n 0, 1) := by decide +kernel
theorem dX8_row_57 : decode cX8_row 57 = .ok (.getfield 10, 3) := by decide +kernel
theorem dX8_row_60 : decode cX8_row 60 = .ok (.getfield 135, 3) := by decide +kernel
theorem dX8_row_63 : decode cX8_row 63 = .ok (.iload_n 1, 1) := by decide +kernel
theorem dX8_row_64 : decode cX8_row 64 = .ok (.iload_n 2, 1) := by decide +kernel
theorem dX8_row_65 : decode cX8_row 65 = .ok (.invokevirtual 144, 3) := by decide +kernel
theorem dX8_row_68 : decode cX8_row 68 = .ok (.ireturn, 1) := by decide +kernel
theorem dX8_row_69 : decode cX8_row 69 = .ok (.aload_n 0, 1) := by decide +kernel
theorem dX8_row_70 : decode cX8_row 70 = .ok (.getfield 10, 3) := by decide +kernel
theorem dX8_row_73 : decode cX8_row 73 = .ok (.getfield 135, 3) := by decide +kernel
theorem dX8_row_76 : decode cX8_row 76 = .ok (.iload_n 1, 1) := by decide +kernel
theorem dX8_row_77 : decode cX8_row 77 = .ok (.iload_n 2, 1) := by decide +kernel
theorem dX8_row_78 : decode cX8_row 78 = .ok (.invokevirtual 147, 3) := by decide +kernel
theorem dX8_row_81 : decode cX8_row 81 = .ok (.ireturn, 1) := by decide +kernel
theorem dX8_row_82 : decode cX8_row 82 = .ok (.bipush (-2), 2) := by decide +kernel
theorem dX8_row_84 : decode cX8_row 84 = .ok (.ireturn, 1) := by decide +kernel
theorem dX8_value_0 : decode cX8_value 0 = .ok (.iload_n 1, 1) := by decide +kernel
theorem dX8_value_1 : decode cX8_value 1 = .ok (.iconst 4, 1) := by decide +kernel
theorem dX8_value_2 : decode cX8_value 2 = .ok (.invokestatic 41, 3) := by decide +kernel
theorem dX8_value_5 : decode cX8_value 5 = .ok (.ifCond .ne 5, 3) := by decide +kernel
theorem dX8_value_8 : decode cX8_value 8 = .ok (.iconst (-1), 1) := by decide +kernel
theorem dX8_value_9 : decode cX8_value 9 = .ok (.ireturn, 1) := by decide +kernel
theorem dX8_value_10 : decode cX8_value 10 = .ok (.iload_n 2, 1) := by decide +kernel
theorem dX8_value_11 : decode cX8_value 11 = .ok (.bipush 100, 2) := by decide +kernel
theorem dX8_value_13 : decode cX8_value 13 = .ok (.invokestatic 41, 3) := by decide +kernel
theorem dX8_value_16 : decode cX8_value 16 = .ok (.ifCond .ne 6, 3) := by decide +kernel
theorem dX8_value_19 : decode cX8_value 19 = .ok (.bipush (-2), 2) := by decide +kernel
theorem dX8_value_21 : decode cX8_value 21 = .ok (.ireturn, 1) := by decide +kernel
theorem dX8_value_22 : decode cX8_value 22 = .ok (.aload_n 0, 1) := by decide +kernel
theorem dX8_value_23 : decode cX8_value 23 = .ok (.getfield 10, 3) := by decide +kernel
theorem dX8_value_26 : decode cX8_value 26 = .ok (.getfield 135, 3) := by decide +kernel
theorem dX8_value_29 : decode cX8_value 29 = .ok (.iload_n 1, 1) := by decide +kernel
theorem dX8_value_30 : decode cX8_value 30 = .ok (.iload_n 2, 1) := by decide +kernel
theorem dX8_value_31 : decode cX8_value 31 = .ok (.invokevirtual 150, 3) := by decide +kernel
theorem dX8_value_34 : decode cX8_value 34 = .ok (.istore_n 3, 1) := by decide +kernel
theorem dX8_value_35 : decode cX8_value 35 = .ok (.iload_n 3, 1) := by decide +kernel
theorem dX8_value_36 : decode cX8_value 36 = .ok (.iconst (-1), 1) := by decide +kernel
theorem dX8_value_37 : decode cX8_value 37 = .ok (.if_icmp .ne 8, 3) := by decide +kernel
theorem dX8_value_40 : decode cX8_value 40 = .ok (.bipush (-6), 2) := by decide +kernel
theorem dX8_value_42 : decode cX8_value 42 = .ok (.goto 15, 3) := by decide +kernel
theorem dX8_value_45 : decode cX8_value 45 = .ok (.aload_n 0, 1) := by decide +kernel
theorem dX8_value_46 : decode cX8_value 46 = .ok (.getfield 10, 3) := by decide +kernel
theorem dX8_value_49 : decode cX8_value 49 = .ok (.getfield 135, 3) := by decide +kernel
theorem dX8_value_52 : decode cX8_value 52 = .ok (.iload_n 1, 1) := by decide +kernel
theorem dX8_value_53 : decode cX8_value 53 = .ok (.iload_n 3, 1) := by decide +kernel
theorem dX8_value_54 : decode cX8_value 54 = .ok (.invokevirtual 147, 3) := by decide +kernel
theorem dX8_value_57 : decode cX8_value 57 = .ok (.ireturn, 1) := by decide +kernel
theorem dX8_ofTrigger_0 : decode cX8_ofTrigger 0 = .ok (.iload_n 1, 1) := by decide +kernel
theorem dX8_ofTrigger_1 : decode cX8_ofTrigger 1 = .ok (.aload_n 0, 1) := by decide +kernel
theorem dX8_ofTrigger_2 : decode cX8_ofTrigger 2 = .ok (.getfield 10, 3) := by decide +kernel
theorem dX8_ofTrigger_5 : decode cX8_ofTrigger 5 = .ok (.getfield 56, 3) := by decide +kernel
theorem dX8_ofTrigger_8 : decode cX8_ofTrigger 8 = .ok (.invokevirtual 60, 3) := by decide +kernel
theorem dX8_ofTrigger_11 : decode cX8_ofTrigger 11 = .ok (.invokestatic 41, 3) := by decide +kernel
theorem dX8_ofTrigger_14 : decode cX8_ofTrigger 14 = .ok (.ifCond .ne 5, 3) := by decide +kernel
theorem dX8_ofTrigger_17 : decode cX8_ofTrigger 17 = .ok (.iconst (-1), 1) := by decide +kernel
theorem dX8_ofTrigger_18 : decode cX8_ofTrigger 18 = .ok (.ireturn, 1) := by decide +kernel
theorem dX8_ofTrigger_19 : decode cX8_ofTrigger 19 = .ok (.iload_n 2, 1) := by decide +kernel
theorem dX8_ofTrigger_20 : decode cX8_ofTrigger 20 = .ok (.bipush 8, 2) := by decide +kernel
theorem dX8_ofTrigger_22 : decode cX8_ofTrigger 22 = .ok (.invokestatic 41, 3) := by decide +kernel
theorem dX8_ofTrigger_25 : decode cX8_ofTrigger 25 = .ok (.ifCond .eq 16, 3) := by decide +kernel
theorem dX8_ofTrigger_28 : decode cX8_ofTrigger 28 = .ok (.aload_n 0, 1) := by decide +kernel
theorem dX8_ofTrigger_29 : decode cX8_ofTrigger 29 = .ok (.getfield 10, 3) := by decide +kernel
theorem dX8_ofTrigger_32 : decode cX8_ofTrigger 32 = .ok (.getfield 56, 3) := by decide +kernel
theorem dX8_ofTrigger_35 : decode cX8_ofTrigger 35 = .ok (.iload_n 1, 1) := by decide +kernel
theorem dX8_ofTrigger_36 : decode cX8_ofTrigger 36 = .ok (.iload_n 2, 1) := by decide +kernel
theorem dX8_ofTrigger_37 : decode cX8_ofTrigger 37 = .ok (.invokevirtual 70, 3) := by decide +kernel
theorem dX8_ofTrigger_40 : decode cX8_ofTrigger 40 = .ok (.ireturn, 1) := by decide +kernel
theorem dX8_ofTrigger_41 : decode cX8_ofTrigger 41 = .ok (.iload_n 2, 1) := by decide +kernel
theorem dX8_ofTrigger_42 : decode cX8_ofTrigger 42 = .ok (.lookupswitch 58 #[(8, 26), (9, 38)], 26) := by decide +kernel
theorem dX8_ofTrigger_68 : decode cX8_ofTrigger 68 = .ok (.aload_n 0, 1) := by decide +kernel
theorem dX8_ofTrigger_69 : decode cX8_ofTrigger 69 = .ok (.getfield 10, 3) := by decide +kernel
theorem dX8_ofTrigger_72 : decode cX8_ofTrigger 72 = .ok (.getfield 56, 3) := by decide +kernel
theorem dX8_ofTrigger_75 : decode cX8_ofTrigger 75 = .ok (.iload_n 1, 1) := by decide +kernel
theorem dX8_ofTrigger_76 : decode cX8_ofTrigger 76 = .ok (.invokevirtual 153, 3) := by decide +kernel
theorem dX8_ofTrigger_79 : decode cX8_ofTrigger 79 = .ok (.ireturn, 1) := by decide +kernel
theorem dX8_ofTrigger_80 : decode cX8_ofTrigger 80 = .ok (.aload_n 0, 1) := by decide +kernel
theorem dX8_ofTrigger_81 : decode cX8_ofTrigger 81 = .ok (.getfield 10, 3) := by decide +kernel
theorem dX8_ofTrigger_84 : decode cX8_ofTrigger 84 = .ok (.getfield 56, 3) := by decide +kernel
theorem dX8_ofTrigger_87 : decode cX8_ofTrigger 87 = .ok (.iload_n 1, 1) := by decide +kernel
theorem dX8_ofTrigger_88 : decode cX8_ofTrigger 88 = .ok (.invokevirtual 156, 3) := by decide +kernel
theorem dX8_ofTrigger_91 : decode cX8_ofTrigger 91 = .ok (.ifCond .eq 7, 3) := by decide +kernel
theorem dX8_ofTrigger_94 : decode cX8_ofTrigger 94 = .ok (.iconst 1, 1) := by decide +kernel
theorem dX8_ofTrigger_95 : decode cX8_ofTrigger 95 = .ok (.goto 4, 3) := by decide +kernel
theorem dX8_ofTrigger_98 : decode cX8_ofTrigger 98 = .ok (.iconst 0, 1) := by decide +kernel
theorem dX8_ofTrigger_99 : decode cX8_ofTrigger 99 = .ok (.ireturn, 1) := by decide +kernel
theorem dX8_ofTrigger_100 : decode cX8_ofTrigger 100 = .ok (.bipush (-2), 2) := by decide +kernel
theorem dX8_ofTrigger_102 : decode cX8_ofTrigger 102 = .ok (.ireturn, 1) := by decide +kernel
theorem dX8_journal_0 : decode cX8_journal 0 = .ok (.iload_n 1, 1) := by decide +kernel
theorem dX8_journal_1 : decode cX8_journal 1 = .ok (.aload_n 0, 1) := by decide +kernel
theorem dX8_journal_2 : decode cX8_journal 2 = .ok (.getfield 10, 3) := by decide +kernel
theorem dX8_journal_5 : decode cX8_journal 5 = .ok (.getfield 102, 3) := by decide +kernel
theorem dX8_journal_8 : decode cX8_journal 8 = .ok (.invokevirtual 106, 3) := by decide +kernel
theorem dX8_journal_11 : decode cX8_journal 11 = .ok (.invokestatic 41, 3) := by decide +kernel
theorem dX8_journal_14 : decode cX8_journal 14 = .ok (.ifCond .ne 5, 3) := by decide +kernel
theorem dX8_journal_17 : decode cX8_journal 17 = .ok (.iconst (-1), 1) := by decide +kernel
theorem dX8_journal_18 : decode cX8_journal 18 = .ok (.ireturn, 1) := by decide +kernel
theorem dX8_journal_19 : decode cX8_journal 19 = .ok (.iload_n 2, 1) := by decide +kernel
theorem dX8_journal_20 : decode cX8_journal 20 = .ok (.bipush 6, 2) := by decide +kernel
theorem dX8_journal_22 : decode cX8_journal 22 = .ok (.invokestatic 41, 3) := by decide +kernel
theorem dX8_journal_25 : decode cX8_journal 25 = .ok (.ifCond .ne 6, 3) := by decide +kernel
theorem dX8_journal_28 : decode cX8_journal 28 = .ok (.bipush (-2), 2) := by decide +kernel
theorem dX8_journal_30 : decode cX8_journal 30 = .ok (.ireturn, 1) := by decide +kernel
theorem dX8_journal_31 : decode cX8_journal 31 = .ok (.aload_n 0, 1) := by decide +kernel
theorem dX8_journal_32 : decode cX8_journal 32 = .ok (.getfield 10, 3) := by decide +kernel
theorem dX8_journal_35 : decode cX8_journal 35 = .ok (.getfield 102, 3) := by decide +kernel
theorem dX8_journal_38 : decode cX8_journal 38 = .ok (.iload_n 1, 1) := by decide +kernel
theorem dX8_journal_39 : decode cX8_journal 39 = .ok (.iload_n 2, 1) := by decide +kernel
theorem dX8_journal_40 : decode cX8_journal 40 = .ok (.invokevirtual 160, 3) := by decide +kernel
theorem dX8_journal_43 : decode cX8_journal 43 = .ok (.ireturn, 1) := by decide +kernel
theorem dX8_count_0 : decode cX8_count 0 = .ok (.iload_n 1, 1) := by decide +kernel
theorem dX8_count_1 : decode cX8_count 1 = .ok (.tableswitch 151 0 11 #[63, 63, 63, 63, 75, 86, 97, 108, 116, 124, 135, 143], 63) := by decide +kernel
theorem dX8_count_64 : decode cX8_count 64 = .ok (.aload_n 0, 1) := by decide +kernel
theorem dX8_count_65 : decode cX8_count 65 = .ok (.getfield 10, 3) := by decide +kernel
theorem dX8_count_68 : decode cX8_count 68 = .ok (.getfield 135, 3) := by decide +kernel
theorem dX8_count_71 : decode cX8_count 71 = .ok (.iload_n 1, 1) := by decide +kernel
theorem dX8_count_72 : decode cX8_count 72 = .ok (.invokevirtual 139, 3) := by decide +kernel
theorem dX8_count_75 : decode cX8_count 75 = .ok (.ireturn, 1) := by decide +kernel
theorem dX8_count_76 : decode cX8_count 76 = .ok (.aload_n 0, 1) := by decide +kernel
theorem dX8_count_77 : decode cX8_count 77 = .ok (.getfield 10, 3) := by decide +kernel
theorem dX8_count_80 : decode cX8_count 80 = .ok (.getfield 56, 3) := by decide +kernel
theorem dX8_count_83 : decode cX8_count 83 = .ok (.invokevirtual 60, 3) := by decide +kernel
theorem dX8_count_86 : decode cX8_count 86 = .ok (.ireturn, 1) := by decide +kernel
theorem dX8_count_87 : decode cX8_count 87 = .ok (.aload_n 0, 1) := by decide +kernel
theorem dX8_count_88 : decode cX8_count 88 = .ok (.getfield 10, 3) := by decide +kernel
theorem dX8_count_91 : decode cX8_count 91 = .ok (.getfield 102, 3) := by decide +kernel
theorem dX8_count_94 : decode cX8_count 94 = .ok (.invokevirtual 106, 3) := by decide +kernel
theorem dX8_count_97 : decode cX8_count 97 = .ok (.ireturn, 1) := by decide +kernel
theorem dX8_count_98 : decode cX8_count 98 = .ok (.aload_n 0, 1) := by decide +kernel
theorem dX8_count_99 : decode cX8_count 99 = .ok (.getfield 10, 3) := by decide +kernel
theorem dX8_count_102 : decode cX8_count 102 = .ok (.getfield 135, 3) := by decide +kernel
theorem dX8_count_105 : decode cX8_count 105 = .ok (.invokevirtual 161, 3) := by decide +kernel
theorem dX8_count_108 : decode cX8_count 108 = .ok (.ireturn, 1) := by decide +kernel
theorem dX8_count_109 : decode cX8_count 109 = .ok (.aload_n 0, 1) := by decide +kernel
theorem dX8_count_110 : decode cX8_count 110 = .ok (.getfield 10, 3) := by decide +kernel
theorem dX8_count_113 : decode cX8_count 113 = .ok (.getfield 49, 3) := by decide +kernel
theorem dX8_count_116 : decode cX8_count 116 = .ok (.ireturn, 1) := by decide +kernel
theorem dX8_count_117 : decode cX8_count 117 = .ok (.aload_n 0, 1) := by decide +kernel
theorem dX8_count_118 : decode cX8_count 118 = .ok (.getfield 10, 3) := by decide +kernel
theorem dX8_count_121 : decode cX8_count 121 = .ok (.getfield 53, 3) := by decide +kernel
theorem dX8_count_124 : decode cX8_count 124 = .ok (.ireturn, 1) := by decide +kernel
theorem dX8_count_125 : decode cX8_count 125 = .ok (.aload_n 0, 1) := by decide +kernel
theorem dX8_count_126 : decode cX8_count 126 = .ok (.getfield 10, 3) := by decide +kernel
theorem dX8_count_129 : decode cX8_count 129 = .ok (.getfield 56, 3) := by decide +kernel
theorem dX8_count_132 : decode cX8_count 132 = .ok (.invokevirtual 164, 3) := by decide +kernel
theorem dX8_count_135 : decode cX8_count 135 = .ok (.ireturn, 1) := by decide +kernel
theorem dX8_count_136 : decode cX8_count 136 = .ok (.aload_n 0, 1) := by decide +kernel
theorem dX8_count_137 : decode cX8_count 137 = .ok (.getfield 26, 3) := by decide +kernel
theorem dX8_count_140 : decode cX8_count 140 = .ok (.invokevirtual 167, 3) := by decide +kernel
theorem dX8_count_143 : decode cX8_count 143 = .ok (.ireturn, 1) := by decide +kernel
theorem dX8_count_144 : decode cX8_count 144 = .ok (.aload_n 0, 1) := by decide +kernel
theorem dX8_count_145 : decode cX8_count 145 = .ok (.getfield 33, 3) := by decide +kernel
theorem dX8_count_148 : decode cX8_count 148 = .ok (.invokevirtual 170, 3) := by decide +kernel
theorem dX8_count_151 : decode cX8_count 151 = .ok (.ireturn, 1) := by decide +kernel
theorem dX8_count_152 : decode cX8_count 152 = .ok (.bipush (-2), 2) := by decide +kernel
theorem dX8_count_154 : decode cX8_count 154 = .ok (.ireturn, 1) := by decide +kernel
theorem dX8_culprits_0 : decode cX8_culprits 0 = .ok (.iload_n 1, 1) := by decide +kernel
theorem dX8_culprits_1 : decode cX8_culprits 1 = .ok (.iload_n 2, 1) := by decide +kernel
theorem dX8_culprits_2 : decode cX8_culprits 2 = .ok (.iload_n 3, 1) := by decide +kernel
theorem dX8_culprits_3 : decode cX8_culprits 3 = .ok (.iload 4, 2) := by decide +kernel
theorem dX8_culprits_5 : decode cX8_culprits 5 = .ok (.invokestatic 82, 3) := by decide +kernel
theorem dX8_culprits_8 : decode cX8_culprits 8 = .ok (.istore 5, 2) := by decide +kernel
theorem dX8_culprits_10 : decode cX8_culprits 10 = .ok (.iload 5, 2) := by decide +kernel
theorem dX8_culprits_12 : decode cX8_culprits 12 = .ok (.ifCond .eq 6, 3) := by decide +kernel
theorem dX8_culprits_15 : decode cX8_culprits 15 = .ok (.iload 5, 2) := by decide +kernel
theorem dX8_culprits_17 : decode cX8_culprits 17 = .ok (.ireturn, 1) := by decide +kernel
theorem dX8_culprits_18 : decode cX8_culprits 18 = .ok (.aload_n 0, 1) := by decide +kernel
theorem dX8_culprits_19 : decode cX8_culprits 19 = .ok (.getfield 19, 3) := by decide +kernel
theorem dX8_culprits_22 : decode cX8_culprits 22 = .ok (.aload_n 0, 1) := by decide +kernel
theorem dX8_culprits_23 : decode cX8_culprits 23 = .ok (.getfield 10, 3) := by decide +kernel
theorem dX8_culprits_26 : decode cX8_culprits 26 = .ok (.iload_n 1, 1) := by decide +kernel
theorem dX8_culprits_27 : decode cX8_culprits 27 = .ok (.iload_n 2, 1) := by decide +kernel
theorem dX8_culprits_28 : decode cX8_culprits 28 = .ok (.iload_n 3, 1) := by decide +kernel
theorem dX8_culprits_29 : decode cX8_culprits 29 = .ok (.iload 4, 2) := by decide +kernel
theorem dX8_culprits_31 : decode cX8_culprits 31 = .ok (.aload_n 0, 1) := by decide +kernel
theorem dX8_culprits_32 : decode cX8_culprits 32 = .ok (.getfield 10, 3) := by decide +kernel
theorem dX8_culprits_35 : decode cX8_culprits 35 = .ok (.getfield 49, 3) := by decide +kernel
theorem dX8_culprits_38 : decode cX8_culprits 38 = .ok (.iconst (-1), 1) := by decide +kernel
theorem dX8_culprits_39 : decode cX8_culprits 39 = .ok (.invokevirtual 85, 3) := by decide +kernel
theorem dX8_culprits_42 : decode cX8_culprits 42 = .ok (.aload_n 0, 1) := by decide +kernel
theorem dX8_culprits_43 : decode cX8_culprits 43 = .ok (.getfield 19, 3) := by decide +kernel
theorem dX8_culprits_46 : decode cX8_culprits 46 = .ok (.getfield 89, 3) := by decide +kernel
theorem dX8_culprits_49 : decode cX8_culprits 49 = .ok (.invokevirtual 93, 3) := by decide +kernel
theorem dX8_culprits_52 : decode cX8_culprits 52 = .ok (.ifCond .ne 6, 3) := by decide +kernel
theorem dX8_culprits_55 : decode cX8_culprits 55 = .ok (.bipush (-6), 2) := by decide +kernel
theorem dX8_culprits_57 : decode cX8_culprits 57 = .ok (.ireturn, 1) := by decide +kernel
theorem dX8_culprits_58 : decode cX8_culprits 58 = .ok (.iconst 0, 1) := by decide +kernel
theorem dX8_culprits_59 : decode cX8_culprits 59 = .ok (.istore 6, 2) := by decide +kernel
theorem dX8_culprits_61 : decode cX8_culprits 61 = .ok (.iconst 0, 1) := by decide +kernel
theorem dX8_culprits_62 : decode cX8_culprits 62 = .ok (.istore 7, 2) := by decide +kernel
theorem dX8_culprits_64 : decode cX8_culprits 64 = .ok (.iload 7, 2) := by decide +kernel
theorem dX8_culprits_66 : decode cX8_culprits 66 = .ok (.aload_n 0, 1) := by decide +kernel
theorem dX8_culprits_67 : decode cX8_culprits 67 = .ok (.getfield 10, 3) := by decide +kernel
theorem dX8_culprits_70 : decode cX8_culprits 70 = .ok (.getfield 56, 3) := by decide +kernel
theorem dX8_culprits_73 : decode cX8_culprits 73 = .ok (.invokevirtual 60, 3) := by decide +kernel
theorem dX8_culprits_76 : decode cX8_culprits 76 = .ok (.if_icmp .ge 56, 3) := by decide +kernel
theorem dX8_culprits_79 : decode cX8_culprits 79 = .ok (.aload_n 0, 1) := by decide +kernel
theorem dX8_culprits_80 : decode cX8_culprits 80 = .ok (.getfield 19, 3) := by decide +kernel
theorem dX8_culprits_83 : decode cX8_culprits 83 = .ok (.aload_n 0, 1) := by decide +kernel
theorem dX8_culprits_84 : decode cX8_culprits 84 = .ok (.getfield 10, 3) := by decide +kernel
theorem dX8_culprits_87 : decode cX8_culprits 87 = .ok (.iload_n 1, 1) := by decide +kernel
theorem dX8_culprits_88 : decode cX8_culprits 88 = .ok (.iload_n 2, 1) := by decide +kernel
theorem dX8_culprits_89 : decode cX8_culprits 89 = .ok (.iload_n 3, 1) := by decide +kernel
theorem dX8_culprits_90 : decode cX8_culprits 90 = .ok (.iload 4, 2) := by decide +kernel
theorem dX8_culprits_92 : decode cX8_culprits 92 = .ok (.aload_n 0, 1) := by decide +kernel
theorem dX8_culprits_93 : decode cX8_culprits 93 = .ok (.getfield 10, 3) := by decide +kernel
theorem dX8_culprits_96 : decode cX8_culprits 96 = .ok (.getfield 49, 3) := by decide +kernel
theorem dX8_culprits_99 : decode cX8_culprits 99 = .ok (.iload 7, 2) := by decide +kernel
theorem dX8_culprits_101 : decode cX8_culprits 101 = .ok (.invokevirtual 85, 3) := by decide +kernel
theorem dX8_culprits_104 : decode cX8_culprits 104 = .ok (.aload_n 0, 1) := by decide +kernel
theorem dX8_culprits_105 : decode cX8_culprits 105 = .ok (.getfield 19, 3) := by decide +kernel
theorem dX8_culprits_108 : decode cX8_culprits 108 = .ok (.getfield 89, 3) := by decide +kernel
theorem dX8_culprits_111 : decode cX8_culprits 111 = .ok (.invokevirtual 93, 3) := by decide +kernel
theorem dX8_culprits_114 : decode cX8_culprits 114 = .ok (.ifCond .ne 12, 3) := by decide +kernel
theorem dX8_culprits_117 : decode cX8_culprits 117 = .ok (.iload 6, 2) := by decide +kernel
theorem dX8_culprits_119 : decode cX8_culprits 119 = .ok (.iconst 1, 1) := by decide +kernel
theorem dX8_culprits_120 : decode cX8_culprits 120 = .ok (.iload 7, 2) := by decide +kernel
theorem dX8_culprits_122 : decode cX8_culprits 122 = .ok (.ishl, 1) := by decide +kernel
theorem dX8_culprits_123 : decode cX8_culprits 123 = .ok (.ior, 1) := by decide +kernel
theorem dX8_culprits_124 : decode cX8_culprits 124 = .ok (.istore 6, 2) := by decide +kernel
theorem dX8_culprits_126 : decode cX8_culprits 126 = .ok (.iinc 7 1, 3) := by decide +kernel
theorem dX8_culprits_129 : decode cX8_culprits 129 = .ok (.goto (-65), 3) := by decide +kernel
theorem dX8_culprits_132 : decode cX8_culprits 132 = .ok (.iload 6, 2) := by decide +kernel
theorem dX8_culprits_134 : decode cX8_culprits 134 = .ok (.ireturn, 1) := by decide +kernel
theorem dX8_leastDepth_0 : decode cX8_leastDepth 0 = .ok (.iload_n 1, 1) := by decide +kernel
theorem dX8_leastDepth_1 : decode cX8_leastDepth 1 = .ok (.iload_n 2, 1) := by decide +kernel
theorem dX8_leastDepth_2 : decode cX8_leastDepth 2 = .ok (.iload_n 3, 1) := by decide +kernel
theorem dX8_leastDepth_3 : decode cX8_leastDepth 3 = .ok (.iload 4, 2) := by decide +kernel
theorem dX8_leastDepth_5 : decode cX8_leastDepth 5 = .ok (.invokestatic 82, 3) := by decide +kernel
theorem dX8_leastDepth_8 : decode cX8_leastDepth 8 = .ok (.istore 5, 2) := by decide +kernel
theorem dX8_leastDepth_10 : decode cX8_leastDepth 10 = .ok (.iload 5, 2) := by decide +kernel
theorem dX8_leastDepth_12 : decode cX8_leastDepth 12 = .ok (.ifCond .eq 6, 3) := by decide +kernel
theorem dX8_leastDepth_15 : decode cX8_leastDepth 15 = .ok (.iload 5, 2) := by decide +kernel
theorem dX8_leastDepth_17 : decode cX8_leastDepth 17 = .ok (.ireturn, 1) := by decide +kernel
theorem dX8_leastDepth_18 : decode cX8_leastDepth 18 = .ok (.iconst 0, 1) := by decide +kernel
theorem dX8_leastDepth_19 : decode cX8_leastDepth 19 = .ok (.istore 6, 2) := by decide +kernel
theorem dX8_leastDepth_21 : decode cX8_leastDepth 21 = .ok (.iload 6, 2) := by decide +kernel
theorem dX8_leastDepth_23 : decode cX8_leastDepth 23 = .ok (.bipush 9, 2) := by decide +kernel
theorem dX8_leastDepth_25 : decode cX8_leastDepth 25 = .ok (.if_icmp .ge 44, 3) := by decide +kernel
theorem dX8_leastDepth_28 : decode cX8_leastDepth 28 = .ok (.aload_n 0, 1) := by decide +kernel
theorem dX8_leastDepth_29 : decode cX8_leastDepth 29 = .ok (.getfield 19, 3) := by decide +kernel
theorem dX8_leastDepth_32 : decode cX8_leastDepth 32 = .ok (.aload_n 0, 1) := by decide +kernel
theorem dX8_leastDepth_33 : decode cX8_leastDepth 33 = .ok (.getfield 10, 3) := by decide +kernel
theorem dX8_leastDepth_36 : decode cX8_leastDepth 36 = .ok (.iload_n 1, 1) := by decide +kernel
theorem dX8_leastDepth_37 : decode cX8_leastDepth 37 = .ok (.iload_n 2, 1) := by decide +kernel
theorem dX8_leastDepth_38 : decode cX8_leastDepth 38 = .ok (.iload_n 3, 1) := by decide +kernel
theorem dX8_leastDepth_39 : decode cX8_leastDepth 39 = .ok (.iload 4, 2) := by decide +kernel
theorem dX8_leastDepth_41 : decode cX8_leastDepth 41 = .ok (.iload 6, 2) := by decide +kernel
theorem dX8_leastDepth_43 : decode cX8_leastDepth 43 = .ok (.iconst (-1), 1) := by decide +kernel
theorem dX8_leastDepth_44 : decode cX8_leastDepth 44 = .ok (.invokevirtual 85, 3) := by decide +kernel
theorem dX8_leastDepth_47 : decode cX8_leastDepth 47 = .ok (.aload_n 0, 1) := by decide +kernel
theorem dX8_leastDepth_48 : decode cX8_leastDepth 48 = .ok (.getfield 19, 3) := by decide +kernel
theorem dX8_leastDepth_51 : decode cX8_leastDepth 51 = .ok (.getfield 89, 3) := by decide +kernel
theorem dX8_leastDepth_54 : decode cX8_leastDepth 54 = .ok (.invokevirtual 93, 3) := by decide +kernel
theorem dX8_leastDepth_57 : decode cX8_leastDepth 57 = .ok (.ifCond .ne 6, 3) := by decide +kernel
theorem dX8_leastDepth_60 : decode cX8_leastDepth 60 = .ok (.iload 6, 2) := by decide +kernel
theorem dX8_leastDepth_62 : decode cX8_leastDepth 62 = .ok (.ireturn, 1) := by decide +kernel
theorem dX8_leastDepth_63 : decode cX8_leastDepth 63 = .ok (.iinc 6 1, 3) := by decide +kernel
theorem dX8_leastDepth_66 : decode cX8_leastDepth 66 = .ok (.goto (-45), 3) := by decide +kernel
theorem dX8_leastDepth_69 : decode cX8_leastDepth 69 = .ok (.bipush (-6), 2) := by decide +kernel
theorem dX8_leastDepth_71 : decode cX8_leastDepth 71 = .ok (.ireturn, 1) := by decide +kernel
theorem dX8_put_0 : decode cX8_put 0 = .ok (.lload_n 1, 1) := by decide +kernel
theorem dX8_put_1 : decode cX8_put 1 = .ok (.invokestatic 171, 3) := by decide +kernel
theorem dX8_put_4 : decode cX8_put 4 = .ok (.istore_n 3, 1) := by decide +kernel
theorem dX8_put_5 : decode cX8_put 5 = .ok (.iload_n 3, 1) := by decide +kernel
theorem dX8_put_6 : decode cX8_put 6 = .ok (.ifCond .ne 6, 3) := by decide +kernel
theorem dX8_put_9 : decode cX8_put 9 = .ok (.bipush (-2), 2) := by decide +kernel
theorem dX8_put_11 : decode cX8_put 11 = .ok (.ireturn, 1) := by decide +kernel
theorem dX8_put_12 : decode cX8_put 12 = .ok (.iload_n 3, 1) := by decide +kernel
theorem dX8_put_13 : decode cX8_put 13 = .ok (.bipush 60, 2) := by decide +kernel
theorem dX8_put_15 : decode cX8_put 15 = .ok (.aload_n 0, 1) := by decide +kernel
theorem dX8_put_16 : decode cX8_put 16 = .ok (.getfield 26, 3) := by decide +kernel
theorem dX8_put_19 : decode cX8_put 19 = .ok (.invokevirtual 167, 3) := by decide +kernel
theorem dX8_put_22 : decode cX8_put 22 = .ok (.isub, 1) := by decide +kernel
theorem dX8_put_23 : decode cX8_put 23 = .ok (.if_icmp .le 6, 3) := by decide +kernel
theorem dX8_put_26 : decode cX8_put 26 = .ok (.bipush (-4), 2) := by decide +kernel
theorem dX8_put_28 : decode cX8_put 28 = .ok (.ireturn, 1) := by decide +kernel
theorem dX8_put_29 : decode cX8_put 29 = .ok (.aload_n 0, 1) := by decide +kernel
theorem dX8_put_30 : decode cX8_put 30 = .ok (.getfield 26, 3) := by decide +kernel
theorem dX8_put_33 : decode cX8_put 33 = .ok (.lload_n 1, 1) := by decide +kernel
theorem dX8_put_34 : decode cX8_put 34 = .ok (.iload_n 3, 1) := by decide +kernel
theorem dX8_put_35 : decode cX8_put 35 = .ok (.invokevirtual 175, 3) := by decide +kernel
theorem dX8_put_38 : decode cX8_put 38 = .ok (.aload_n 0, 1) := by decide +kernel
theorem dX8_put_39 : decode cX8_put 39 = .ok (.getfield 26, 3) := by decide +kernel
theorem dX8_put_42 : decode cX8_put 42 = .ok (.invokevirtual 167, 3) := by decide +kernel
theorem dX8_put_45 : decode cX8_put 45 = .ok (.ireturn, 1) := by decide +kernel
theorem dX8_wipe_0 : decode cX8_wipe 0 = .ok (.aload_n 0, 1) := by decide +kernel
theorem dX8_wipe_1 : decode cX8_wipe 1 = .ok (.getfield 26, 3) := by decide +kernel
theorem dX8_wipe_4 : decode cX8_wipe 4 = .ok (.invokevirtual 167, 3) := by decide +kernel
theorem dX8_wipe_7 : decode cX8_wipe 7 = .ok (.istore_n 1, 1) := by decide +kernel
theorem dX8_wipe_8 : decode cX8_wipe 8 = .ok (.aload_n 0, 1) := by decide +kernel
theorem dX8_wipe_9 : decode cX8_wipe 9 = .ok (.getfield 26, 3) := by decide +kernel
theorem dX8_wipe_12 : decode cX8_wipe 12 = .ok (.invokevirtual 178, 3) := by decide +kernel
theorem dX8_wipe_15 : decode cX8_wipe 15 = .ok (.iload_n 1, 1) := by decide +kernel
theorem dX8_wipe_16 : decode cX8_wipe 16 = .ok (.ireturn, 1) := by decide +kernel
theorem dX8_fault_0 : decode cX8_fault 0 = .ok (.aload_n 0, 1) := by decide +kernel
theorem dX8_fault_1 : decode cX8_fault 1 = .ok (.getfield 26, 3) := by decide +kernel
theorem dX8_fault_4 : decode cX8_fault 4 = .ok (.invokevirtual 181, 3) := by decide +kernel
theorem dX8_fault_7 : decode cX8_fault 7 = .ok (.ireturn, 1) := by decide +kernel
theorem dX8_carryOut_0 : decode cX8_carryOut 0 = .ok (.aload_n 0, 1) := by decide +kernel
theorem dX8_carryOut_1 : decode cX8_carryOut 1 = .ok (.getfield 26, 3) := by decide +kernel
theorem dX8_carryOut_4 : decode cX8_carryOut 4 = .ok (.invokevirtual 181, 3) := by decide +kernel
theorem dX8_carryOut_7 : decode cX8_carryOut 7 = .ok (.bipush (-6), 2) := by decide +kernel
theorem dX8_carryOut_9 : decode cX8_carryOut 9 = .ok (.if_icmp .eq 6, 3) := by decide +kernel
theorem dX8_carryOut_12 : decode cX8_carryOut 12 = .ok (.bipush (-3), 2) := by decide +kernel
theorem dX8_carryOut_14 : decode cX8_carryOut 14 = .ok (.ireturn, 1) := by decide +kernel
theorem dX8_carryOut_15 : decode cX8_carryOut 15 = .ok (.aload_n 0, 1) := by decide +kernel
theorem dX8_carryOut_16 : decode cX8_carryOut 16 = .ok (.getfield 33, 3) := by decide +kernel
theorem dX8_carryOut_19 : decode cX8_carryOut 19 = .ok (.aload_n 0, 1) := by decide +kernel
theorem dX8_carryOut_20 : decode cX8_carryOut 20 = .ok (.getfield 10, 3) := by decide +kernel
theorem dX8_carryOut_23 : decode cX8_carryOut 23 = .ok (.invokevirtual 45, 3) := by decide +kernel
theorem dX8_carryOut_26 : decode cX8_carryOut 26 = .ok (.iconst 0, 1) := by decide +kernel
theorem dX8_carryOut_27 : decode cX8_carryOut 27 = .ok (.istore_n 1, 1) := by decide +kernel
theorem dX8_carryOut_28 : decode cX8_carryOut 28 = .ok (.iload_n 1, 1) := by decide +kernel
theorem dX8_carryOut_29 : decode cX8_carryOut 29 = .ok (.aload_n 0, 1) := by decide +kernel
theorem dX8_carryOut_30 : decode cX8_carryOut 30 = .ok (.getfield 26, 3) := by decide +kernel
theorem dX8_carryOut_33 : decode cX8_carryOut 33 = .ok (.invokevirtual 184, 3) := by decide +kernel
theorem dX8_carryOut_36 : decode cX8_carryOut 36 = .ok (.if_icmp .ge 84, 3) := by decide +kernel
theorem dX8_carryOut_39 : decode cX8_carryOut 39 = .ok (.aload_n 0, 1) := by decide +kernel
theorem dX8_carryOut_40 : decode cX8_carryOut 40 = .ok (.getfield 19, 3) := by decide +kernel
theorem dX8_carryOut_43 : decode cX8_carryOut 43 = .ok (.aload_n 0, 1) := by decide +kernel
theorem dX8_carryOut_44 : decode cX8_carryOut 44 = .ok (.getfield 10, 3) := by decide +kernel
theorem dX8_carryOut_47 : decode cX8_carryOut 47 = .ok (.aload_n 0, 1) := by decide +kernel
theorem dX8_carryOut_48 : decode cX8_carryOut 48 = .ok (.getfield 26, 3) := by decide +kernel
theorem dX8_carryOut_51 : decode cX8_carryOut 51 = .ok (.iload_n 1, 1) := by decide +kernel
theorem dX8_carryOut_52 : decode cX8_carryOut 52 = .ok (.iconst 0, 1) := by decide +kernel
theorem dX8_carryOut_53 : decode cX8_carryOut 53 = .ok (.invokevirtual 187, 3) := by decide +kernel
theorem dX8_carryOut_56 : decode cX8_carryOut 56 = .ok (.aload_n 0, 1) := by decide +kernel
theorem dX8_carryOut_57 : decode cX8_carryOut 57 = .ok (.getfield 26, 3) := by decide +kernel
theorem dX8_carryOut_60 : decode cX8_carryOut 60 = .ok (.iload_n 1, 1) := by decide +kernel
theorem dX8_carryOut_61 : decode cX8_carryOut 61 = .ok (.iconst 1, 1) := by decide +kernel
theorem dX8_carryOut_62 : decode cX8_carryOut 62 = .ok (.invokevirtual 187, 3) := by decide +kernel
theorem dX8_carryOut_65 : decode cX8_carryOut 65 = .ok (.aload_n 0, 1) := by decide +kernel
theorem dX8_carryOut_66 : decode cX8_carryOut 66 = .ok (.getfield 26, 3) := by decide +kernel
theorem dX8_carryOut_69 : decode cX8_carryOut 69 = .ok (.iload_n 1, 1) := by decide +kernel
theorem dX8_carryOut_70 : decode cX8_carryOut 70 = .ok (.iconst 2, 1) := by decide +kernel
theorem dX8_carryOut_71 : decode cX8_carryOut 71 = .ok (.invokevirtual 187, 3) := by decide +kernel
theorem dX8_carryOut_74 : decode cX8_carryOut 74 = .ok (.aload_n 0, 1) := by decide +kernel
theorem dX8_carryOut_75 : decode cX8_carryOut 75 = .ok (.getfield 26, 3) := by decide +kernel
theorem dX8_carryOut_78 : decode cX8_carryOut 78 = .ok (.iload_n 1, 1) := by decide +kernel
theorem dX8_carryOut_79 : decode cX8_carryOut 79 = .ok (.iconst 3, 1) := by decide +kernel
theorem dX8_carryOut_80 : decode cX8_carryOut 80 = .ok (.invokevirtual 187, 3) := by decide +kernel
theorem dX8_carryOut_83 : decode cX8_carryOut 83 = .ok (.aload_n 0, 1) := by decide +kernel
theorem dX8_carryOut_84 : decode cX8_carryOut 84 = .ok (.getfield 10, 3) := by decide +kernel
theorem dX8_carryOut_87 : decode cX8_carryOut 87 = .ok (.getfield 49, 3) := by decide +kernel
theorem dX8_carryOut_90 : decode cX8_carryOut 90 = .ok (.iconst (-1), 1) := by decide +kernel
theorem dX8_carryOut_91 : decode cX8_carryOut 91 = .ok (.invokevirtual 85, 3) := by decide +kernel
theorem dX8_carryOut_94 : decode cX8_carryOut 94 = .ok (.aload_n 0, 1) := by decide +kernel
theorem dX8_carryOut_95 : decode cX8_carryOut 95 = .ok (.getfield 19, 3) := by decide +kernel
theorem dX8_carryOut_98 : decode cX8_carryOut 98 = .ok (.getfield 89, 3) := by decide +kernel
theorem dX8_carryOut_101 : decode cX8_carryOut 101 = .ok (.invokevirtual 93, 3) := by decide +kernel
theorem dX8_carryOut_104 : decode cX8_carryOut 104 = .ok (.ifCond .eq 6, 3) := by decide +kernel
theorem dX8_carryOut_107 : decode cX8_carryOut 107 = .ok (.goto 13, 3) := by decide +kernel
theorem dX8_carryOut_110 : decode cX8_carryOut 110 = .ok (.aload_n 0, 1) := by decide +kernel
theorem dX8_carryOut_111 : decode cX8_carryOut 111 = .ok (.invokevirtual 99, 3) := by decide +kernel
theorem dX8_carryOut_114 : decode cX8_carryOut 114 = .ok (.iinc 1 1, 3) := by decide +kernel
theorem dX8_carryOut_117 : decode cX8_carryOut 117 = .ok (.goto (-89), 3) := by decide +kernel
theorem dX8_carryOut_120 : decode cX8_carryOut 120 = .ok (.aload_n 0, 1) := by decide +kernel
theorem dX8_carryOut_121 : decode cX8_carryOut 121 = .ok (.getfield 26, 3) := by decide +kernel
theorem dX8_carryOut_124 : decode cX8_carryOut 124 = .ok (.invokevirtual 178, 3) := by decide +kernel
theorem dX8_carryOut_127 : decode cX8_carryOut 127 = .ok (.iload_n 1, 1) := by decide +kernel
theorem dX8_carryOut_128 : decode cX8_carryOut 128 = .ok (.ireturn, 1) := by decide +kernel
theorem dX8_undo_0 : decode cX8_undo 0 = .ok (.aload_n 0, 1) := by decide +kernel
theorem dX8_undo_1 : decode cX8_undo 1 = .ok (.getfield 33, 3) := by decide +kernel
theorem dX8_undo_4 : decode cX8_undo 4 = .ok (.aload_n 0, 1) := by decide +kernel
theorem dX8_undo_5 : decode cX8_undo 5 = .ok (.getfield 10, 3) := by decide +kernel
theorem dX8_undo_8 : decode cX8_undo 8 = .ok (.invokevirtual 188, 3) := by decide +kernel
theorem dX8_undo_11 : decode cX8_undo 11 = .ok (.ifCond .ne 6, 3) := by decide +kernel
theorem dX8_undo_14 : decode cX8_undo 14 = .ok (.bipush (-5), 2) := by decide +kernel
theorem dX8_undo_16 : decode cX8_undo 16 = .ok (.ireturn, 1) := by decide +kernel
theorem dX8_undo_17 : decode cX8_undo 17 = .ok (.aload_n 0, 1) := by decide +kernel
theorem dX8_undo_18 : decode cX8_undo 18 = .ok (.getfield 33, 3) := by decide +kernel
theorem dX8_undo_21 : decode cX8_undo 21 = .ok (.invokevirtual 170, 3) := by decide +kernel
theorem dX8_undo_24 : decode cX8_undo 24 = .ok (.ireturn, 1) := by decide +kernel
theorem dX8_save_0 : decode cX8_save 0 = .ok (.iload_n 1, 1) := by decide +kernel
theorem dX8_save_1 : decode cX8_save 1 = .ok (.iconst 2, 1) := by decide +kernel
theorem dX8_save_2 : decode cX8_save 2 = .ok (.invokestatic 41, 3) := by decide +kernel
theorem dX8_save_5 : decode cX8_save 5 = .ok (.ifCond .ne 6, 3) := by decide +kernel
theorem dX8_save_8 : decode cX8_save 8 = .ok (.bipush (-2), 2) := by decide +kernel
theorem dX8_save_10 : decode cX8_save 10 = .ok (.ireturn, 1) := by decide +kernel
theorem dX8_save_11 : decode cX8_save 11 = .ok (.aload_n 0, 1) := by decide +kernel
theorem dX8_save_12 : decode cX8_save 12 = .ok (.getfield 37, 3) := by decide +kernel
theorem dX8_save_15 : decode cX8_save 15 = .ok (.iload_n 1, 1) := by decide +kernel
theorem dX8_save_16 : decode cX8_save 16 = .ok (.aaload, 1) := by decide +kernel
theorem dX8_save_17 : decode cX8_save 17 = .ok (.astore_n 2, 1) := by decide +kernel
theorem dX8_save_18 : decode cX8_save 18 = .ok (.aload_n 2, 1) := by decide +kernel
theorem dX8_save_19 : decode cX8_save 19 = .ok (.ifnonnull 18, 3) := by decide +kernel
theorem dX8_save_22 : decode cX8_save 22 = .ok (.new 7, 3) := by decide +kernel
theorem dX8_save_25 : decode cX8_save 25 = .ok (.dup, 1) := by decide +kernel
theorem dX8_save_26 : decode cX8_save 26 = .ok (.invokespecial 9, 3) := by decide +kernel
theorem dX8_save_29 : decode cX8_save 29 = .ok (.astore_n 2, 1) := by decide +kernel
theorem dX8_save_30 : decode cX8_save 30 = .ok (.aload_n 0, 1) := by decide +kernel
theorem dX8_save_31 : decode cX8_save 31 = .ok (.getfield 37, 3) := by decide +kernel
theorem dX8_save_34 : decode cX8_save 34 = .ok (.iload_n 1, 1) := by decide +kernel
theorem dX8_save_35 : decode cX8_save 35 = .ok (.aload_n 2, 1) := by decide +kernel
theorem dX8_save_36 : decode cX8_save 36 = .ok (.aastore, 1) := by decide +kernel
theorem dX8_save_37 : decode cX8_save 37 = .ok (.aload_n 2, 1) := by decide +kernel
theorem dX8_save_38 : decode cX8_save 38 = .ok (.aload_n 0, 1) := by decide +kernel
theorem dX8_save_39 : decode cX8_save 39 = .ok (.getfield 10, 3) := by decide +kernel
theorem dX8_save_42 : decode cX8_save 42 = .ok (.invokevirtual 192, 3) := by decide +kernel
theorem dX8_save_45 : decode cX8_save 45 = .ok (.aload_n 0, 1) := by decide +kernel
theorem dX8_save_46 : decode cX8_save 46 = .ok (.getfield 10, 3) := by decide +kernel
theorem dX8_save_49 : decode cX8_save 49 = .ok (.getfield 135, 3) := by decide +kernel
theorem dX8_save_52 : decode cX8_save 52 = .ok (.invokevirtual 195, 3) := by decide +kernel
theorem dX8_save_55 : decode cX8_save 55 = .ok (.ireturn, 1) := by decide +kernel
theorem dX8_restore_0 : decode cX8_restore 0 = .ok (.iload_n 1, 1) := by decide +kernel
theorem dX8_restore_1 : decode cX8_restore 1 = .ok (.iconst 2, 1) := by decide +kernel
theorem dX8_restore_2 : decode cX8_restore 2 = .ok (.invokestatic 41, 3) := by decide +kernel
theorem dX8_restore_5 : decode cX8_restore 5 = .ok (.ifCond .ne 6, 3) := by decide +kernel
theorem dX8_restore_8 : decode cX8_restore 8 = .ok (.bipush (-2), 2) := by decide +kernel
theorem dX8_restore_10 : decode cX8_restore 10 = .ok (.ireturn, 1) := by decide +kernel
theorem dX8_restore_11 : decode cX8_restore 11 = .ok (.aload_n 0, 1) := by decide +kernel
theorem dX8_restore_12 : decode cX8_restore 12 = .ok (.getfield 37, 3) := by decide +kernel
theorem dX8_restore_15 : decode cX8_restore 15 = .ok (.iload_n 1, 1) := by decide +kernel
theorem dX8_restore_16 : decode cX8_restore 16 = .ok (.aaload, 1) := by decide +kernel
theorem dX8_restore_17 : decode cX8_restore 17 = .ok (.astore_n 2, 1) := by decide +kernel
theorem dX8_restore_18 : decode cX8_restore 18 = .ok (.aload_n 2, 1) := by decide +kernel
theorem dX8_restore_19 : decode cX8_restore 19 = .ok (.ifnonnull 6, 3) := by decide +kernel
theorem dX8_restore_22 : decode cX8_restore 22 = .ok (.bipush (-5), 2) := by decide +kernel
theorem dX8_restore_24 : decode cX8_restore 24 = .ok (.ireturn, 1) := by decide +kernel
theorem dX8_restore_25 : decode cX8_restore 25 = .ok (.aload_n 0, 1) := by decide +kernel
theorem dX8_restore_26 : decode cX8_restore 26 = .ok (.getfield 33, 3) := by decide +kernel
theorem dX8_restore_29 : decode cX8_restore 29 = .ok (.aload_n 0, 1) := by decide +kernel
theorem dX8_restore_30 : decode cX8_restore 30 = .ok (.getfield 10, 3) := by decide +kernel
theorem dX8_restore_33 : decode cX8_restore 33 = .ok (.invokevirtual 45, 3) := by decide +kernel
theorem dX8_restore_36 : decode cX8_restore 36 = .ok (.aload_n 0, 1) := by decide +kernel
theorem dX8_restore_37 : decode cX8_restore 37 = .ok (.getfield 10, 3) := by decide +kernel
theorem dX8_restore_40 : decode cX8_restore 40 = .ok (.aload_n 2, 1) := by decide +kernel
theorem dX8_restore_41 : decode cX8_restore 41 = .ok (.invokevirtual 192, 3) := by decide +kernel
theorem dX8_restore_44 : decode cX8_restore 44 = .ok (.aload_n 0, 1) := by decide +kernel
theorem dX8_restore_45 : decode cX8_restore 45 = .ok (.getfield 10, 3) := by decide +kernel
theorem dX8_restore_48 : decode cX8_restore 48 = .ok (.getfield 135, 3) := by decide +kernel
theorem dX8_restore_51 : decode cX8_restore 51 = .ok (.invokevirtual 195, 3) := by decide +kernel
theorem dX8_restore_54 : decode cX8_restore 54 = .ok (.ireturn, 1) := by decide +kernel
theorem dX8_isWithin_0 : decode cX8_isWithin 0 = .ok (.iload_n 0, 1) := by decide +kernel
theorem dX8_isWithin_1 : decode cX8_isWithin 1 = .ok (.ifCond .lt 12, 3) := by decide +kernel
theorem dX8_isWithin_4 : decode cX8_isWithin 4 = .ok (.iload_n 0, 1) := by decide +kernel
theorem dX8_isWithin_5 : decode cX8_isWithin 5 = .ok (.iload_n 1, 1) := by decide +kernel
theorem dX8_isWithin_6 : decode cX8_isWithin 6 = .ok (.if_icmp .ge 7, 3) := by decide +kernel
theorem dX8_isWithin_9 : decode cX8_isWithin 9 = .ok (.iconst 1, 1) := by decide +kernel
theorem dX8_isWithin_10 : decode cX8_isWithin 10 = .ok (.goto 4, 3) := by decide +kernel
theorem dX8_isWithin_13 : decode cX8_isWithin 13 = .ok (.iconst 0, 1) := by decide +kernel
theorem dX8_isWithin_14 : decode cX8_isWithin 14 = .ok (.ireturn, 1) := by decide +kernel
theorem dX8_errorOf_0 : decode cX8_errorOf 0 = .ok (.iload_n 1, 1) := by decide +kernel
theorem dX8_errorOf_1 : decode cX8_errorOf 1 = .ok (.iconst 4, 1) := by decide +kernel
theorem dX8_errorOf_2 : decode cX8_errorOf 2 = .ok (.invokestatic 41, 3) := by decide +kernel
theorem dX8_errorOf_5 : decode cX8_errorOf 5 = .ok (.ifCond .ne 5, 3) := by decide +kernel
theorem dX8_errorOf_8 : decode cX8_errorOf 8 = .ok (.iconst (-1), 1) := by decide +kernel
theorem dX8_errorOf_9 : decode cX8_errorOf 9 = .ok (.ireturn, 1) := by decide +kernel
theorem dX8_errorOf_10 : decode cX8_errorOf 10 = .ok (.iload_n 0, 1) := by decide +kernel
theorem dX8_errorOf_11 : decode cX8_errorOf 11 = .ok (.iconst 3, 1) := by decide +kernel
theorem dX8_errorOf_12 : decode cX8_errorOf 12 = .ok (.invokestatic 41, 3) := by decide +kernel
theorem dX8_errorOf_15 : decode cX8_errorOf 15 = .ok (.ifCond .eq 22, 3) := by decide +kernel
theorem dX8_errorOf_18 : decode cX8_errorOf 18 = .ok (.iload_n 2, 1) := by decide +kernel
theorem dX8_errorOf_19 : decode cX8_errorOf 19 = .ok (.bipush 100, 2) := by decide +kernel
theorem dX8_errorOf_21 : decode cX8_errorOf 21 = .ok (.invokestatic 41, 3) := by decide +kernel
theorem dX8_errorOf_24 : decode cX8_errorOf 24 = .ok (.ifCond .eq 13, 3) := by decide +kernel
theorem dX8_errorOf_27 : decode cX8_errorOf 27 = .ok (.iload_n 3, 1) := by decide +kernel
theorem dX8_errorOf_28 : decode cX8_errorOf 28 = .ok (.sipush 1000, 3) := by decide +kernel
theorem dX8_errorOf_31 : decode cX8_errorOf 31 = .ok (.invokestatic 41, 3) := by decide +kernel
theorem dX8_errorOf_34 : decode cX8_errorOf 34 = .ok (.ifCond .ne 6, 3) := by decide +kernel
theorem dX8_errorOf_37 : decode cX8_errorOf 37 = .ok (.bipush (-2), 2) := by decide +kernel
theorem dX8_errorOf_39 : decode cX8_errorOf 39 = .ok (.ireturn, 1) := by decide +kernel
theorem dX8_errorOf_40 : decode cX8_errorOf 40 = .ok (.iconst 0, 1) := by decide +kernel
theorem dX8_errorOf_41 : decode cX8_errorOf 41 = .ok (.ireturn, 1) := by decide +kernel
theorem dX8_takeOver_0 : decode cX8_takeOver 0 = .ok (.aload_n 0, 1) := by decide +kernel
theorem dX8_takeOver_1 : decode cX8_takeOver 1 = .ok (.getfield 10, 3) := by decide +kernel
theorem dX8_takeOver_4 : decode cX8_takeOver 4 = .ok (.getfield 135, 3) := by decide +kernel
theorem dX8_takeOver_7 : decode cX8_takeOver 7 = .ok (.aload_n 0, 1) := by decide +kernel
theorem dX8_takeOver_8 : decode cX8_takeOver 8 = .ok (.getfield 19, 3) := by decide +kernel
theorem dX8_takeOver_11 : decode cX8_takeOver 11 = .ok (.getfield 198, 3) := by decide +kernel
theorem dX8_takeOver_14 : decode cX8_takeOver 14 = .ok (.invokevirtual 199, 3) := by decide +kernel
theorem dX8_takeOver_17 : decode cX8_takeOver 17 = .ok (.aload_n 0, 1) := by decide +kernel
theorem dX8_takeOver_18 : decode cX8_takeOver 18 = .ok (.getfield 10, 3) := by decide +kernel
theorem dX8_takeOver_21 : decode cX8_takeOver 21 = .ok (.getfield 102, 3) := by decide +kernel
theorem dX8_takeOver_24 : decode cX8_takeOver 24 = .ok (.aload_n 0, 1) := by decide +kernel
theorem dX8_takeOver_25 : decode cX8_takeOver 25 = .ok (.getfield 19, 3) := by decide +kernel
theorem dX8_takeOver_28 : decode cX8_takeOver 28 = .ok (.getfield 112, 3) := by decide +kernel
theorem dX8_takeOver_31 : decode cX8_takeOver 31 = .ok (.invokevirtual 202, 3) := by decide +kernel
theorem dX8_takeOver_34 : decode cX8_takeOver 34 = .ok (.return_, 1) := by decide +kernel
theorem dX9_init_0 : decode cX9_init 0 = .ok (.aload_n 0, 1) := by decide +kernel
theorem dX9_init_1 : decode cX9_init 1 = .ok (.invokespecial 1, 3) := by decide +kernel
theorem dX9_init_4 : decode cX9_init 4 = .ok (.aload_n 0, 1) := by decide +kernel
theorem dX9_init_5 : decode cX9_init 5 = .ok (.sipush 800, 3) := by decide +kernel
theorem dX9_init_8 : decode cX9_init 8 = .ok (.newarray .int, 2) := by decide +kernel
theorem dX9_init_10 : decode cX9_init 10 = .ok (.putfield 7, 3) := by decide +kernel
theorem dX9_init_13 : decode cX9_init 13 = .ok (.aload_n 0, 1) := by decide +kernel
theorem dX9_init_14 : decode cX9_init 14 = .ok (.sipush 800, 3) := by decide +kernel
theorem dX9_init_17 : decode cX9_init 17 = .ok (.newarray .int, 2) := by decide +kernel
theorem dX9_init_19 : decode cX9_init 19 = .ok (.putfield 13, 3) := by decide +kernel
theorem dX9_init_22 : decode cX9_init 22 = .ok (.aload_n 0, 1) := by decide +kernel
theorem dX9_init_23 : decode cX9_init 23 = .ok (.sipush 4800, 3) := by decide +kernel
theorem dX9_init_26 : decode cX9_init 26 = .ok (.newarray .int, 2) := by decide +kernel
theorem dX9_init_28 : decode cX9_init 28 = .ok (.putfield 16, 3) := by decide +kernel
theorem dX9_init_31 : decode cX9_init 31 = .ok (.aload_n 0, 1) := by decide +kernel
theorem dX9_init_32 : decode cX9_init 32 = .ok (.sipush 1600, 3) := by decide +kernel
theorem dX9_init_35 : decode cX9_init 35 = .ok (.newarray .int, 2) := by decide +kernel
theorem dX9_init_37 : decode cX9_init 37 = .ok (.putfield 19, 3) := by decide +kernel
theorem dX9_init_40 : decode cX9_init 40 = .ok (.aload_n 0, 1) := by decide +kernel
theorem dX9_init_41 : decode cX9_init 41 = .ok (.iconst 2, 1) := by decide +kernel
theorem dX9_init_42 : decode cX9_init 42 = .ok (.newarray .boolean, 2) := by decide +kernel
theorem dX9_init_44 : decode cX9_init 44 = .ok (.putfield 22, 3) := by decide +kernel
theorem dX9_init_47 : decode cX9_init 47 = .ok (.aload_n 0, 1) := by decide +kernel
theorem dX9_init_48 : decode cX9_init 48 = .ok (.bipush 60, 2) := by decide +kernel
theorem dX9_init_50 : decode cX9_init 50 = .ok (.newarray .int, 2) := by decide +kernel
theorem dX9_init_52 : decode cX9_init 52 = .ok (.putfield 26, 3) := by decide +kernel
theorem dX9_init_55 : decode cX9_init 55 = .ok (.aload_n 0, 1) := by decide +kernel
theorem dX9_init_56 : decode cX9_init 56 = .ok (.bipush 12, 2) := by decide +kernel
theorem dX9_init_58 : decode cX9_init 58 = .ok (.newarray .int, 2) := by decide +kernel
theorem dX9_init_60 : decode cX9_init 60 = .ok (.putfield 29, 3) := by decide +kernel
theorem dX9_init_63 : decode cX9_init 63 = .ok (.aload_n 0, 1) := by decide +kernel
theorem dX9_init_64 : decode cX9_init 64 = .ok (.bipush (-6), 2) := by decide +kernel
theorem dX9_init_66 : decode cX9_init 66 = .ok (.putfield 32, 3) := by decide +kernel
theorem dX9_init_69 : decode cX9_init 69 = .ok (.aload_n 0, 1) := by decide +kernel
theorem dX9_init_70 : decode cX9_init 70 = .ok (.bipush 12, 2) := by decide +kernel
theorem dX9_init_72 : decode cX9_init 72 = .ok (.newarray .int, 2) := by decide +kernel
theorem dX9_init_74 : decode cX9_init 74 = .ok (.putfield 36, 3) := by decide +kernel
theorem dX9_init_77 : decode cX9_init 77 = .ok (.aload_n 0, 1) := by decide +kernel
theorem dX9_init_78 : decode cX9_init 78 = .ok (.bipush 12, 2) := by decide +kernel
theorem dX9_init_80 : decode cX9_init 80 = .ok (.newarray .int, 2) := by decide +kernel
theorem dX9_init_82 : decode cX9_init 82 = .ok (.putfield 39, 3) := by decide +kernel
theorem dX9_init_85 : decode cX9_init 85 = .ok (.aload_n 0, 1) := by decide +kernel
theorem dX9_init_86 : decode cX9_init 86 = .ok (.bipush 12, 2) := by decide +kernel
theorem dX9_init_88 : decode cX9_init 88 = .ok (.newarray .int, 2) := by decide +kernel
theorem dX9_init_90 : decode cX9_init 90 = .ok (.putfield 42, 3) := by decide +kernel
theorem dX9_init_93 : decode cX9_init 93 = .ok (.aload_n 0, 1) := by decide +kernel
theorem dX9_init_94 : decode cX9_init 94 = .ok (.bipush 12, 2) := by decide +kernel
theorem dX9_init_96 : decode cX9_init 96 = .ok (.newarray .int, 2) := by decide +kernel
theorem dX9_init_98 : decode cX9_init 98 = .ok (.putfield 45, 3) := by decide +kernel
theorem dX9_init_101 : decode cX9_init 101 = .ok (.aload_n 0, 1) := by decide +kernel
theorem dX9_init_102 : decode cX9_init 102 = .ok (.bipush 12, 2) := by decide +kernel
theorem dX9_init_104 : decode cX9_init 104 = .ok (.newarray .int, 2) := by decide +kernel
theorem dX9_init_106 : decode cX9_init 106 = .ok (.putfield 48, 3) := by decide +kernel
theorem dX9_init_109 : decode cX9_init 109 = .ok (.aload_n 0, 1) := by decide +kernel
theorem dX9_init_110 : decode cX9_init 110 = .ok (.bipush 12, 2) := by decide +kernel
theorem dX9_init_112 : decode cX9_init 112 = .ok (.newarray .int, 2) := by decide +kernel
theorem dX9_init_114 : decode cX9_init 114 = .ok (.putfield 51, 3) := by decide +kernel
theorem dX9_init_117 : decode cX9_init 117 = .ok (.aload_n 0, 1) := by decide +kernel
theorem dX9_init_118 : decode cX9_init 118 = .ok (.bipush 12, 2) := by decide +kernel
theorem dX9_init_120 : decode cX9_init 120 = .ok (.newarray .int, 2) := by decide +kernel
theorem dX9_init_122 : decode cX9_init 122 = .ok (.putfield 54, 3) := by decide +kernel
theorem dX9_init_125 : decode cX9_init 125 = .ok (.aload_n 0, 1) := by decide +kernel
theorem dX9_init_126 : decode cX9_init 126 = .ok (.bipush 12, 2) := by decide +kernel
theorem dX9_init_128 : decode cX9_init 128 = .ok (.newarray .int, 2) := by decide +kernel
theorem dX9_init_130 : decode cX9_init 130 = .ok (.putfield 57, 3) := by decide +kernel
theorem dX9_init_133 : decode cX9_init 133 = .ok (.aload_n 0, 1) := by decide +kernel
theorem dX9_init_134 : decode cX9_init 134 = .ok (.iconst 4, 1) := by decide +kernel
theorem dX9_init_135 : decode cX9_init 135 = .ok (.newarray .boolean, 2) := by decide +kernel
theorem dX9_init_137 : decode cX9_init 137 = .ok (.putfield 60, 3) := by decide +kernel
theorem dX9_init_140 : decode cX9_init 140 = .ok (.aload_n 0, 1) := by decide +kernel
theorem dX9_init_141 : decode cX9_init 141 = .ok (.sipush 1300, 3) := by decide +kernel
theorem dX9_init_144 : decode cX9_init 144 = .ok (.newarray .int, 2) := by decide +kernel
theorem dX9_init_146 : decode cX9_init 146 = .ok (.putfield 63, 3) := by decide +kernel
theorem dX9_init_149 : decode cX9_init 149 = .ok (.aload_n 0, 1) := by decide +kernel
theorem dX9_init_150 : decode cX9_init 150 = .ok (.sipush 1300, 3) := by decide +kernel
theorem dX9_init_153 : decode cX9_init 153 = .ok (.newarray .int, 2) := by decide +kernel
theorem dX9_init_155 : decode cX9_init 155 = .ok (.putfield 66, 3) := by decide +kernel
theorem dX9_init_158 : decode cX9_init 158 = .ok (.aload_n 0, 1) := by decide +kernel
theorem dX9_init_159 : decode cX9_init 159 = .ok (.sipush 1300, 3) := by decide +kernel
theorem dX9_init_162 : decode cX9_init 162 = .ok (.newarray .int, 2) := by decide +kernel
theorem dX9_init_164 : decode cX9_init 164 = .ok (.putfield 69, 3) := by decide +kernel
theorem dX9_init_167 : decode cX9_init 167 = .ok (.aload_n 0, 1) := by decide +kernel
theorem dX9_init_168 : decode cX9_init 168 = .ok (.sipush 1300, 3) := by decide +kernel
theorem dX9_init_171 : decode cX9_init 171 = .ok (.newarray .int, 2) := by decide +kernel
theorem dX9_init_173 : decode cX9_init 173 = .ok (.putfield 72, 3) := by decide +kernel
theorem dX9_init_176 : decode cX9_init 176 = .ok (.aload_n 0, 1) := by decide +kernel
theorem dX9_init_177 : decode cX9_init 177 = .ok (.sipush 13000, 3) := by decide +kernel
theorem dX9_init_180 : decode cX9_init 180 = .ok (.newarray .int, 2) := by decide +kernel
theorem dX9_init_182 : decode cX9_init 182 = .ok (.putfield 75, 3) := by decide +kernel
theorem dX9_init_185 : decode cX9_init 185 = .ok (.aload_n 0, 1) := by decide +kernel
theorem dX9_init_186 : decode cX9_init 186 = .ok (.sipush 606, 3) := by decide +kernel
theorem dX9_init_189 : decode cX9_init 189 = .ok (.newarray .int, 2) := by decide +kernel
theorem dX9_init_191 : decode cX9_init 191 = .ok (.putfield 78, 3) := by decide +kernel
theorem dX9_init_194 : decode cX9_init 194 = .ok (.aload_n 0, 1) := by decide +kernel
theorem dX9_init_195 : decode cX9_init 195 = .ok (.bipush 12, 2) := by decide +kernel
theorem dX9_init_197 : decode cX9_init 197 = .ok (.newarray .int, 2) := by decide +kernel
theorem dX9_init_199 : decode cX9_init 199 = .ok (.putfield 81, 3) := by decide +kernel
theorem dX9_init_202 : decode cX9_init 202 = .ok (.aload_n 0, 1) := by decide +kernel
theorem dX9_init_203 : decode cX9_init 203 = .ok (.bipush 12, 2) := by decide +kernel
theorem dX9_init_205 : decode cX9_init 205 = .ok (.newarray .int, 2) := by decide +kernel
theorem dX9_init_207 : decode cX9_init 207 = .ok (.putfield 84, 3) := by decide +kernel
theorem dX9_init_210 : decode cX9_init 210 = .ok (.aload_n 0, 1) := by decide +kernel
theorem dX9_init_211 : decode cX9_init 211 = .ok (.bipush 64, 2) := by decide +kernel
theorem dX9_init_213 : decode cX9_init 213 = .ok (.newarray .int, 2) := by decide +kernel
theorem dX9_init_215 : decode cX9_init 215 = .ok (.putfield 87, 3) := by decide +kernel
theorem dX9_init_218 : decode cX9_init 218 = .ok (.aload_n 0, 1) := by decide +kernel
theorem dX9_init_219 : decode cX9_init 219 = .ok (.iconst 0, 1) := by decide +kernel
theorem dX9_init_220 : decode cX9_init 220 = .ok (.putfield 90, 3) := by decide +kernel
theorem dX9_init_223 : decode cX9_init 223 = .ok (.aload_n 0, 1) := by decide +kernel
theorem dX9_init_224 : decode cX9_init 224 = .ok (.getfield 7, 3) := by decide +kernel
theorem dX9_init_227 : decode cX9_init 227 = .ok (.iconst 0, 1) := by decide +kernel
theorem dX9_init_228 : decode cX9_init 228 = .ok (.iconst 4, 1) := by decide +kernel
theorem dX9_init_229 : decode cX9_init 229 = .ok (.iastore, 1) := by decide +kernel
theorem dX9_init_230 : decode cX9_init 230 = .ok (.return_, 1) := by decide +kernel
theorem dX9_in_0 : decode cX9_in 0 = .ok (.iload_n 0, 1) := by decide +kernel
theorem dX9_in_1 : decode cX9_in 1 = .ok (.iload_n 1, 1) := by decide +kernel
theorem dX9_in_2 : decode cX9_in 2 = .ok (.if_icmp .lt 12, 3) := by decide +kernel
theorem dX9_in_5 : decode cX9_in 5 = .ok (.iload_n 0, 1) := by decide +kernel
theorem dX9_in_6 : decode cX9_in 6 = .ok (.iload_n 2, 1) := by decide +kernel
theorem dX9_in_7 : decode cX9_in 7 = .ok (.if_icmp .gt 7, 3) := by decide +kernel
theorem dX9_in_10 : decode cX9_in 10 = .ok (.iconst 1, 1) := by decide +kernel
theorem dX9_in_11 : decode cX9_in 11 = .ok (.goto 4, 3) := by decide +kernel
theorem dX9_in_14 : decode cX9_in 14 = .ok (.iconst 0, 1) := by decide +kernel
theorem dX9_in_15 : decode cX9_in 15 = .ok (.ireturn, 1) := by decide +kernel
theorem dX9_isTable_0 : decode cX9_isTable 0 = .ok (.iload_n 0, 1) := by decide +kernel
theorem dX9_isTable_1 : decode cX9_isTable 1 = .ok (.iconst 0, 1) := by decide +kernel
theorem dX9_isTable_2 : decode cX9_isTable 2 = .ok (.iconst 3, 1) := by decide +kernel
theorem dX9_isTable_3 : decode cX9_isTable 3 = .ok (.invokestatic 93, 3) := by decide +kernel
theorem dX9_isTable_6 : decode cX9_isTable 6 = .ok (.ireturn, 1) := by decide +kernel
theorem dX9_isTrigger_0 : decode cX9_isTrigger 0 = .ok (.iload_n 1, 1) := by decide +kernel
theorem dX9_isTrigger_1 : decode cX9_isTrigger 1 = .ok (.iconst 0, 1) := by decide +kernel
theorem dX9_isTrigger_2 : decode cX9_isTrigger 2 = .ok (.aload_n 0, 1) := by decide +kernel
theorem dX9_isTrigger_3 : decode cX9_isTrigger 3 = .ok (.getfield 7, 3) := by decide +kernel
theorem dX9_isTrigger_6 : decode cX9_isTrigger 6 = .ok (.bipush 102, 2) := by decide +kernel
theorem dX9_isTrigger_8 : decode cX9_isTrigger 8 = .ok (.iaload, 1) := by decide +kernel
theorem dX9_isTrigger_9 : decode cX9_isTrigger 9 = .ok (.iconst 1, 1) := by decide +kernel
theorem dX9_isTrigger_10 : decode cX9_isTrigger 10 = .ok (.isub, 1) := by decide +kernel
theorem dX9_isTrigger_11 : decode cX9_isTrigger 11 = .ok (.invokestatic 93, 3) := by decide +kernel
theorem dX9_isTrigger_14 : decode cX9_isTrigger 14 = .ok (.ireturn, 1) := by decide +kernel
theorem dX9_of_0 : decode cX9_of 0 = .ok (.aload_n 0, 1) := by decide +kernel
theorem dX9_of_1 : decode cX9_of 1 = .ok (.getfield 7, 3) := by decide +kernel
theorem dX9_of_4 : decode cX9_of 4 = .ok (.bipush 103, 2) := by decide +kernel
theorem dX9_of_6 : decode cX9_of 6 = .ok (.bipush 8, 2) := by decide +kernel
theorem dX9_of_8 : decode cX9_of 8 = .ok (.iload_n 1, 1) := by decide +kernel
theorem dX9_of_9 : decode cX9_of 9 = .ok (.imul, 1) := by decide +kernel
theorem dX9_of_10 : decode cX9_of 10 = .ok (.iadd, 1) := by decide +kernel
theorem dX9_of_11 : decode cX9_of 11 = .ok (.iload_n 2, 1) := by decide +kernel
theorem dX9_of_12 : decode cX9_of 12 = .ok (.iadd, 1) := by decide +kernel
theorem dX9_of_13 : decode cX9_of 13 = .ok (.iaload, 1) := by decide +kernel
theorem dX9_of_14 : decode cX9_of 14 = .ok (.ireturn, 1) := by decide +kernel
theorem dX9_records_0 : decode cX9_records 0 = .ok (.aload_n 0, 1) := by decide +kernel
theorem dX9_records_1 : decode cX9_records 1 = .ok (.getfield 97, 3) := by decide +kernel
theorem dX9_records_4 : decode cX9_records 4 = .ok (.bipush 6, 2) := by decide +kernel
theorem dX9_records_6 : decode cX9_records 6 = .ok (.if_icmp .ne 44, 3) := by decide +kernel
theorem dX9_records_9 : decode cX9_records 9 = .ok (.iconst 0, 1) := by decide +kernel
theorem dX9_records_10 : decode cX9_records 10 = .ok (.istore_n 1, 1) := by decide +kernel
theorem dX9_records_11 : decode cX9_records 11 = .ok (.iload_n 1, 1) := by decide +kernel
theorem dX9_records_12 : decode cX9_records 12 = .ok (.sipush 4000, 3) := by decide +kernel
theorem dX9_records_15 : decode cX9_records 15 = .ok (.if_icmp .ge 25, 3) := by decide +kernel
theorem dX9_records_18 : decode cX9_records 18 = .ok (.aload_n 0, 1) := by decide +kernel
theorem dX9_records_19 : decode cX9_records 19 = .ok (.getfield 16, 3) := by decide +kernel
theorem dX9_records_22 : decode cX9_records 22 = .ok (.iload_n 1, 1) := by decide +kernel
theorem dX9_records_23 : decode cX9_records 23 = .ok (.aload_n 0, 1) := by decide +kernel
theorem dX9_records_24 : decode cX9_records 24 = .ok (.getfield 16, 3) := by decide +kernel
theorem dX9_records_27 : decode cX9_records 27 = .ok (.iload_n 1, 1) := by decide +kernel
theorem dX9_records_28 : decode cX9_records 28 = .ok (.sipush 800, 3) := by decide +kernel
theorem dX9_records_31 : decode cX9_records 31 = .ok (.iadd, 1) := by decide +kernel
theorem dX9_records_32 : decode cX9_records 32 = .ok (.iaload, 1) := by decide +kernel
theorem dX9_records_33 : decode cX9_records 33 = .ok (.iastore, 1) := by decide +kernel
theorem dX9_records_34 : decode cX9_records 34 = .ok (.iinc 1 1, 3) := by decide +kernel
theorem dX9_records_37 : decode cX9_records 37 = .ok (.goto (-26), 3) := by decide +kernel
theorem dX9_records_40 : decode cX9_records 40 = .ok (.aload_n 0, 1) := by decide +kernel
theorem dX9_records_41 : decode cX9_records 41 = .ok (.dup, 1) := by decide +kernel
theorem dX9_records_42 : decode cX9_records 42 = .ok (.getfield 97, 3) := by decide +kernel
theorem dX9_records_45 : decode cX9_records 45 = .ok (.iconst 1, 1) := by decide +kernel
theorem dX9_records_46 : decode cX9_records 46 = .ok (.isub, 1) := by decide +kernel
theorem dX9_records_47 : decode cX9_records 47 = .ok (.putfield 97, 3) := by decide +kernel
theorem dX9_records_50 : decode cX9_records 50 = .ok (.iconst 0, 1) := by decide +kernel
theorem dX9_records_51 : decode cX9_records 51 = .ok (.istore_n 1, 1) := by decide +kernel
theorem dX9_records_52 : decode cX9_records 52 = .ok (.iload_n 1, 1) := by decide +kernel
theorem dX9_records_53 : decode cX9_records 53 = .ok (.sipush 800, 3) := by decide +kernel
theorem dX9_records_56 : decode cX9_records 56 = .ok (.if_icmp .ge 30, 3) := by decide +kernel
theorem dX9_records_59 : decode cX9_records 59 = .ok (.aload_n 0, 1) := by decide +kernel
theorem dX9_records_60 : decode cX9_records 60 = .ok (.getfield 16, 3) := by decide +kernel
theorem dX9_records_63 : decode cX9_records 63 = .ok (.sipush 800, 3) := by decide +kernel
theorem dX9_records_66 : decode cX9_records 66 = .ok (.aload_n 0, 1) := by decide +kernel
theorem dX9_records_67 : decode cX9_records 67 = .ok (.getfield 97, 3) := by decide +kernel
theorem dX9_records_70 : decode cX9_records 70 = .ok (.imul, 1) := by decide +kernel
theorem dX9_records_71 : decode cX9_records 71 = .ok (.iload_n 1, 1) := by decide +kernel
theorem dX9_records_72 : decode cX9_records 72 = .ok (.iadd, 1) := by decide +kernel
theorem dX9_records_73 : decode cX9_records 73 = .ok (.aload_n 0, 1) := by decide +kernel
theorem dX9_records_74 : decode cX9_records 74 = .ok (.getfield 7, 3) := by decide +kernel
theorem dX9_records_77 : decode cX9_records 77 = .ok (.iload_n 1, 1) := by decide +kernel
theorem dX9_records_78 : decode cX9_records 78 = .ok (.iaload, 1) := by decide +kernel
theorem dX9_records_79 : decode cX9_records 79 = .ok (.iastore, 1) := by decide +kernel
theorem dX9_records_80 : decode cX9_records 80 = .ok (.iinc 1 1, 3) := by decide +kernel
theorem dX9_records_83 : decode cX9_records 83 = .ok (.goto (-31), 3) := by decide +kernel
theorem dX9_records_86 : decode cX9_records 86 = .ok (.aload_n 0, 1) := by decide +kernel
theorem dX9_records_87 : decode cX9_records 87 = .ok (.dup, 1) := by decide +kernel
theorem dX9_records_88 : decode cX9_records 88 = .ok (.getfield 97, 3) := by decide +kernel
theorem dX9_records_91 : decode cX9_records 91 = .ok (.iconst 1, 1) := by decide +kernel
theorem dX9_records_92 : decode cX9_records 92 = .ok (.iadd, 1) := by decide +kernel
theorem dX9_records_93 : decode cX9_records 93 = .ok (.putfield 97, 3) := by decide +kernel
theorem dX9_records_96 : decode cX9_records 96 = .ok (.return_, 1) := by decide +kernel
theorem dX9_putAside_0 : decode cX9_putAside 0 = .ok (.iconst 0, 1) := by decide +kernel
theorem dX9_putAside_1 : decode cX9_putAside 1 = .ok (.istore_n 1, 1) := by decide +kernel
theorem dX9_putAside_2 : decode cX9_putAside 2 = .ok (.iload_n 1, 1) := by decide +kernel
theorem dX9_putAside_3 : decode cX9_putAside 3 = .ok (.sipush 800, 3) := by decide +kernel
theorem dX9_putAside_6 : decode cX9_putAside 6 = .ok (.if_icmp .ge 21, 3) := by decide +kernel
theorem dX9_putAside_9 : decode cX9_putAside 9 = .ok (.aload_n 0, 1) := by decide +kernel
theorem dX9_putAside_10 : decode cX9_putAside 10 = .ok (.getfield 13, 3) := by decide +kernel
theorem dX9_putAside_13 : decode cX9_putAside 13 = .ok (.iload_n 1, 1) := by decide +kernel
theorem dX9_putAside_14 : decode cX9_putAside 14 = .ok (.aload_n 0, 1) := by decide +kernel
theorem dX9_putAside_15 : decode cX9_putAside 15 = .ok (.getfield 7, 3) := by decide +kernel
theorem dX9_putAside_18 : decode cX9_putAside 18 = .ok (.iload_n 1, 1) := by decide +kernel
theorem dX9_putAside_19 : decode cX9_putAside 19 = .ok (.iaload, 1) := by decide +kernel
theorem dX9_putAside_20 : decode cX9_putAside 20 = .ok (.iastore, 1) := by decide +kernel
theorem dX9_putAside_21 : decode cX9_putAside 21 = .ok (.iinc 1 1, 3) := by decide +kernel
theorem dX9_putAside_24 : decode cX9_putAside 24 = .ok (.goto (-22), 3) := by decide +kernel
theorem dX9_putAside_27 : decode cX9_putAside 27 = .ok (.return_, 1) := by decide +kernel
theorem dX9_takeBack_0 : decode cX9_takeBack 0 = .ok (.iconst 0, 1) := by decide +kernel
theorem dX9_takeBack_1 : decode cX9_takeBack 1 = .ok (.istore_n 1, 1) := by decide +kernel
theorem dX9_takeBack_2 : decode cX9_takeBack 2 = .ok (.iload_n 1, 1) := by decide +kernel
theorem dX9_takeBack_3 : decode cX9_takeBack 3 = .ok (.sipush 800, 3) := by decide +kernel
theorem dX9_takeBack_6 : decode cX9_takeBack 6 = .ok (.if_icmp .ge 21, 3) := by decide +kernel
theorem dX9_takeBack_9 : decode cX9_takeBack 9 = .ok (.aload_n 0, 1) := by decide +kernel
theorem dX9_takeBack_10 : decode cX9_takeBack 10 = .ok (.getfield 7, 3) := by decide +kernel
theorem dX9_takeBack_13 : decode cX9_takeBack 13 = .ok (.iload_n 1, 1) := by decide +kernel
theorem dX9_takeBack_14 : decode cX9_takeBack 14 = .ok (.aload_n 0, 1) := by decide +kernel
theorem dX9_takeBack_15 : decode cX9_takeBack 15 = .ok (.getfield 13, 3) := by decide +kernel
theorem dX9_takeBack_18 : decode cX9_takeBack 18 = .ok (.iload_n 1, 1) := by decide +kernel
theorem dX9_takeBack_19 : decode cX9_takeBack 19 = .ok (.iaload, 1) := by decide +kernel
theorem dX9_takeBack_20 : decode cX9_takeBack 20 = .ok (.iastore, 1) := by decide +kernel
theorem dX9_takeBack_21 : decode cX9_takeBack 21 = .ok (.iinc 1 1, 3) := by decide +kernel
theorem dX9_takeBack_24 : decode cX9_takeBack 24 = .ok (.goto (-22), 3) := by decide +kernel
theorem dX9_takeBack_27 : decode cX9_takeBack 27 = .ok (.return_, 1) := by decide +kernel
theorem dX9_rowAt_0 : decode cX9_rowAt 0 = .ok (.iconst 2, 1) := by decide +kernel
theorem dX9_rowAt_1 : decode cX9_rowAt 1 = .ok (.bipush 25, 2) := by decide +kernel
theorem dX9_rowAt_3 : decode cX9_rowAt 3 = .ok (.iload_n 0, 1) := by decide +kernel
theorem dX9_rowAt_4 : decode cX9_rowAt 4 = .ok (.imul, 1) := by decide +kernel
theorem dX9_rowAt_5 : decode cX9_rowAt 5 = .ok (.iadd, 1) := by decide +kernel
theorem dX9_rowAt_6 : decode cX9_rowAt 6 = .ok (.iconst 1, 1) := by decide +kernel
theorem dX9_rowAt_7 : decode cX9_rowAt 7 = .ok (.iadd, 1) := by decide +kernel
theorem dX9_rowAt_8 : decode cX9_rowAt 8 = .ok (.iconst 2, 1) := by decide +kernel
theorem dX9_rowAt_9 : decode cX9_rowAt 9 = .ok (.iload_n 1, 1) := by decide +kernel
theorem dX9_rowAt_10 : decode cX9_rowAt 10 = .ok (.imul, 1) := by decide +kernel
theorem dX9_rowAt_11 : decode cX9_rowAt 11 = .ok (.iadd, 1) := by decide +kernel
theorem dX9_rowAt_12 : decode cX9_rowAt 12 = .ok (.ireturn, 1) := by decide +kernel
theorem dX9_rows_0 : decode cX9_rows 0 = .ok (.aload_n 0, 1) := by decide +kernel
theorem dX9_rows_1 : decode cX9_rows 1 = .ok (.getfield 7, 3) := by decide +kernel
