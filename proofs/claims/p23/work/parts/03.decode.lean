/-! what each instruction of the program is (printed by program) -/
theorem dX7_remove_8 : decode cX7_remove 8 = .ok (.return_, 1) := by decide +kernel
theorem dX7_followers_0 : decode cX7_followers 0 = .ok (.aload_n 0, 1) := by decide +kernel
theorem dX7_followers_1 : decode cX7_followers 1 = .ok (.getfield 16, 3) := by decide +kernel
theorem dX7_followers_4 : decode cX7_followers 4 = .ok (.iload_n 1, 1) := by decide +kernel
theorem dX7_followers_5 : decode cX7_followers 5 = .ok (.iconst 5, 1) := by decide +kernel
theorem dX7_followers_6 : decode cX7_followers 6 = .ok (.invokevirtual 28, 3) := by decide +kernel
theorem dX7_followers_9 : decode cX7_followers 9 = .ok (.istore_n 2, 1) := by decide +kernel
theorem dX7_followers_10 : decode cX7_followers 10 = .ok (.aload_n 0, 1) := by decide +kernel
theorem dX7_followers_11 : decode cX7_followers 11 = .ok (.getfield 16, 3) := by decide +kernel
theorem dX7_followers_14 : decode cX7_followers 14 = .ok (.iload_n 1, 1) := by decide +kernel
theorem dX7_followers_15 : decode cX7_followers 15 = .ok (.iconst 4, 1) := by decide +kernel
theorem dX7_followers_16 : decode cX7_followers 16 = .ok (.invokevirtual 28, 3) := by decide +kernel
theorem dX7_followers_19 : decode cX7_followers 19 = .ok (.iconst 1, 1) := by decide +kernel
theorem dX7_followers_20 : decode cX7_followers 20 = .ok (.isub, 1) := by decide +kernel
theorem dX7_followers_21 : decode cX7_followers 21 = .ok (.istore_n 3, 1) := by decide +kernel
theorem dX7_followers_22 : decode cX7_followers 22 = .ok (.iconst 0, 1) := by decide +kernel
theorem dX7_followers_23 : decode cX7_followers 23 = .ok (.istore 4, 2) := by decide +kernel
theorem dX7_followers_25 : decode cX7_followers 25 = .ok (.iconst 0, 1) := by decide +kernel
theorem dX7_followers_26 : decode cX7_followers 26 = .ok (.istore 5, 2) := by decide +kernel
theorem dX7_followers_28 : decode cX7_followers 28 = .ok (.iload 5, 2) := by decide +kernel
theorem dX7_followers_30 : decode cX7_followers 30 = .ok (.aload_n 0, 1) := by decide +kernel
theorem dX7_followers_31 : decode cX7_followers 31 = .ok (.getfield 16, 3) := by decide +kernel
theorem dX7_followers_34 : decode cX7_followers 34 = .ok (.invokevirtual 24, 3) := by decide +kernel
theorem dX7_followers_37 : decode cX7_followers 37 = .ok (.if_icmp .ge 46, 3) := by decide +kernel
theorem dX7_followers_40 : decode cX7_followers 40 = .ok (.aload_n 0, 1) := by decide +kernel
theorem dX7_followers_41 : decode cX7_followers 41 = .ok (.getfield 16, 3) := by decide +kernel
theorem dX7_followers_44 : decode cX7_followers 44 = .ok (.iload 5, 2) := by decide +kernel
theorem dX7_followers_46 : decode cX7_followers 46 = .ok (.iconst 0, 1) := by decide +kernel
theorem dX7_followers_47 : decode cX7_followers 47 = .ok (.invokevirtual 28, 3) := by decide +kernel
theorem dX7_followers_50 : decode cX7_followers 50 = .ok (.iload_n 2, 1) := by decide +kernel
theorem dX7_followers_51 : decode cX7_followers 51 = .ok (.if_icmp .ne 26, 3) := by decide +kernel
theorem dX7_followers_54 : decode cX7_followers 54 = .ok (.aload_n 0, 1) := by decide +kernel
theorem dX7_followers_55 : decode cX7_followers 55 = .ok (.getfield 16, 3) := by decide +kernel
theorem dX7_followers_58 : decode cX7_followers 58 = .ok (.iload 5, 2) := by decide +kernel
theorem dX7_followers_60 : decode cX7_followers 60 = .ok (.iconst 1, 1) := by decide +kernel
theorem dX7_followers_61 : decode cX7_followers 61 = .ok (.invokevirtual 28, 3) := by decide +kernel
theorem dX7_followers_64 : decode cX7_followers 64 = .ok (.iload_n 3, 1) := by decide +kernel
theorem dX7_followers_65 : decode cX7_followers 65 = .ok (.if_icmp .ne 12, 3) := by decide +kernel
theorem dX7_followers_68 : decode cX7_followers 68 = .ok (.iload 4, 2) := by decide +kernel
theorem dX7_followers_70 : decode cX7_followers 70 = .ok (.iconst 1, 1) := by decide +kernel
theorem dX7_followers_71 : decode cX7_followers 71 = .ok (.iload 5, 2) := by decide +kernel
theorem dX7_followers_73 : decode cX7_followers 73 = .ok (.ishl, 1) := by decide +kernel
theorem dX7_followers_74 : decode cX7_followers 74 = .ok (.ior, 1) := by decide +kernel
theorem dX7_followers_75 : decode cX7_followers 75 = .ok (.istore 4, 2) := by decide +kernel
theorem dX7_followers_77 : decode cX7_followers 77 = .ok (.iinc 5 1, 3) := by decide +kernel
theorem dX7_followers_80 : decode cX7_followers 80 = .ok (.goto (-52), 3) := by decide +kernel
theorem dX7_followers_83 : decode cX7_followers 83 = .ok (.iload 4, 2) := by decide +kernel
theorem dX7_followers_85 : decode cX7_followers 85 = .ok (.ireturn, 1) := by decide +kernel
theorem dX7_couldSetOffItself_0 : decode cX7_couldSetOffItself 0 = .ok (.aload_n 0, 1) := by decide +kernel
theorem dX7_couldSetOffItself_1 : decode cX7_couldSetOffItself 1 = .ok (.iload_n 1, 1) := by decide +kernel
theorem dX7_couldSetOffItself_2 : decode cX7_couldSetOffItself 2 = .ok (.invokevirtual 47, 3) := by decide +kernel
theorem dX7_couldSetOffItself_5 : decode cX7_couldSetOffItself 5 = .ok (.istore_n 2, 1) := by decide +kernel
theorem dX7_couldSetOffItself_6 : decode cX7_couldSetOffItself 6 = .ok (.iconst 1, 1) := by decide +kernel
theorem dX7_couldSetOffItself_7 : decode cX7_couldSetOffItself 7 = .ok (.istore_n 3, 1) := by decide +kernel
theorem dX7_couldSetOffItself_8 : decode cX7_couldSetOffItself 8 = .ok (.iload_n 3, 1) := by decide +kernel
theorem dX7_couldSetOffItself_9 : decode cX7_couldSetOffItself 9 = .ok (.bipush 12, 2) := by decide +kernel
theorem dX7_couldSetOffItself_11 : decode cX7_couldSetOffItself 11 = .ok (.if_icmp .ge 17, 3) := by decide +kernel
theorem dX7_couldSetOffItself_14 : decode cX7_couldSetOffItself 14 = .ok (.iload_n 2, 1) := by decide +kernel
theorem dX7_couldSetOffItself_15 : decode cX7_couldSetOffItself 15 = .ok (.aload_n 0, 1) := by decide +kernel
theorem dX7_couldSetOffItself_16 : decode cX7_couldSetOffItself 16 = .ok (.iload_n 2, 1) := by decide +kernel
theorem dX7_couldSetOffItself_17 : decode cX7_couldSetOffItself 17 = .ok (.invokevirtual 51, 3) := by decide +kernel
theorem dX7_couldSetOffItself_20 : decode cX7_couldSetOffItself 20 = .ok (.ior, 1) := by decide +kernel
theorem dX7_couldSetOffItself_21 : decode cX7_couldSetOffItself 21 = .ok (.istore_n 2, 1) := by decide +kernel
theorem dX7_couldSetOffItself_22 : decode cX7_couldSetOffItself 22 = .ok (.iinc 3 1, 3) := by decide +kernel
theorem dX7_couldSetOffItself_25 : decode cX7_couldSetOffItself 25 = .ok (.goto (-17), 3) := by decide +kernel
theorem dX7_couldSetOffItself_28 : decode cX7_couldSetOffItself 28 = .ok (.iload_n 2, 1) := by decide +kernel
theorem dX7_couldSetOffItself_29 : decode cX7_couldSetOffItself 29 = .ok (.iload_n 1, 1) := by decide +kernel
theorem dX7_couldSetOffItself_30 : decode cX7_couldSetOffItself 30 = .ok (.invokestatic 54, 3) := by decide +kernel
theorem dX7_couldSetOffItself_33 : decode cX7_couldSetOffItself 33 = .ok (.ireturn, 1) := by decide +kernel
theorem dX7_thoseThatCouldSetOffThemselves_0 : decode cX7_thoseThatCouldSetOffThemselves 0 = .ok (.iconst 0, 1) := by decide +kernel
theorem dX7_thoseThatCouldSetOffThemselves_1 : decode cX7_thoseThatCouldSetOffThemselves 1 = .ok (.istore_n 1, 1) := by decide +kernel
theorem dX7_thoseThatCouldSetOffThemselves_2 : decode cX7_thoseThatCouldSetOffThemselves 2 = .ok (.iconst 0, 1) := by decide +kernel
theorem dX7_thoseThatCouldSetOffThemselves_3 : decode cX7_thoseThatCouldSetOffThemselves 3 = .ok (.istore_n 2, 1) := by decide +kernel
theorem dX7_thoseThatCouldSetOffThemselves_4 : decode cX7_thoseThatCouldSetOffThemselves 4 = .ok (.iload_n 2, 1) := by decide +kernel
theorem dX7_thoseThatCouldSetOffThemselves_5 : decode cX7_thoseThatCouldSetOffThemselves 5 = .ok (.aload_n 0, 1) := by decide +kernel
theorem dX7_thoseThatCouldSetOffThemselves_6 : decode cX7_thoseThatCouldSetOffThemselves 6 = .ok (.getfield 16, 3) := by decide +kernel
theorem dX7_thoseThatCouldSetOffThemselves_9 : decode cX7_thoseThatCouldSetOffThemselves 9 = .ok (.invokevirtual 24, 3) := by decide +kernel
theorem dX7_thoseThatCouldSetOffThemselves_12 : decode cX7_thoseThatCouldSetOffThemselves 12 = .ok (.if_icmp .ge 23, 3) := by decide +kernel
theorem dX7_thoseThatCouldSetOffThemselves_15 : decode cX7_thoseThatCouldSetOffThemselves 15 = .ok (.aload_n 0, 1) := by decide +kernel
theorem dX7_thoseThatCouldSetOffThemselves_16 : decode cX7_thoseThatCouldSetOffThemselves 16 = .ok (.iload_n 2, 1) := by decide +kernel
theorem dX7_thoseThatCouldSetOffThemselves_17 : decode cX7_thoseThatCouldSetOffThemselves 17 = .ok (.invokevirtual 58, 3) := by decide +kernel
theorem dX7_thoseThatCouldSetOffThemselves_20 : decode cX7_thoseThatCouldSetOffThemselves 20 = .ok (.ifCond .eq 9, 3) := by decide +kernel
theorem dX7_thoseThatCouldSetOffThemselves_23 : decode cX7_thoseThatCouldSetOffThemselves 23 = .ok (.iload_n 1, 1) := by decide +kernel
theorem dX7_thoseThatCouldSetOffThemselves_24 : decode cX7_thoseThatCouldSetOffThemselves 24 = .ok (.iconst 1, 1) := by decide +kernel
theorem dX7_thoseThatCouldSetOffThemselves_25 : decode cX7_thoseThatCouldSetOffThemselves 25 = .ok (.iload_n 2, 1) := by decide +kernel
theorem dX7_thoseThatCouldSetOffThemselves_26 : decode cX7_thoseThatCouldSetOffThemselves 26 = .ok (.ishl, 1) := by decide +kernel
theorem dX7_thoseThatCouldSetOffThemselves_27 : decode cX7_thoseThatCouldSetOffThemselves 27 = .ok (.ior, 1) := by decide +kernel
theorem dX7_thoseThatCouldSetOffThemselves_28 : decode cX7_thoseThatCouldSetOffThemselves 28 = .ok (.istore_n 1, 1) := by decide +kernel
theorem dX7_thoseThatCouldSetOffThemselves_29 : decode cX7_thoseThatCouldSetOffThemselves 29 = .ok (.iinc 2 1, 3) := by decide +kernel
theorem dX7_thoseThatCouldSetOffThemselves_32 : decode cX7_thoseThatCouldSetOffThemselves 32 = .ok (.goto (-28), 3) := by decide +kernel
theorem dX7_thoseThatCouldSetOffThemselves_35 : decode cX7_thoseThatCouldSetOffThemselves 35 = .ok (.iload_n 1, 1) := by decide +kernel
theorem dX7_thoseThatCouldSetOffThemselves_36 : decode cX7_thoseThatCouldSetOffThemselves 36 = .ok (.ireturn, 1) := by decide +kernel
theorem dX7_followersOfAll_0 : decode cX7_followersOfAll 0 = .ok (.iconst 0, 1) := by decide +kernel
theorem dX7_followersOfAll_1 : decode cX7_followersOfAll 1 = .ok (.istore_n 2, 1) := by decide +kernel
theorem dX7_followersOfAll_2 : decode cX7_followersOfAll 2 = .ok (.iconst 0, 1) := by decide +kernel
theorem dX7_followersOfAll_3 : decode cX7_followersOfAll 3 = .ok (.istore_n 3, 1) := by decide +kernel
theorem dX7_followersOfAll_4 : decode cX7_followersOfAll 4 = .ok (.iload_n 3, 1) := by decide +kernel
theorem dX7_followersOfAll_5 : decode cX7_followersOfAll 5 = .ok (.aload_n 0, 1) := by decide +kernel
theorem dX7_followersOfAll_6 : decode cX7_followersOfAll 6 = .ok (.getfield 16, 3) := by decide +kernel
theorem dX7_followersOfAll_9 : decode cX7_followersOfAll 9 = .ok (.invokevirtual 24, 3) := by decide +kernel
theorem dX7_followersOfAll_12 : decode cX7_followersOfAll 12 = .ok (.if_icmp .ge 25, 3) := by decide +kernel
theorem dX7_followersOfAll_15 : decode cX7_followersOfAll 15 = .ok (.iload_n 1, 1) := by decide +kernel
theorem dX7_followersOfAll_16 : decode cX7_followersOfAll 16 = .ok (.iload_n 3, 1) := by decide +kernel
theorem dX7_followersOfAll_17 : decode cX7_followersOfAll 17 = .ok (.invokestatic 54, 3) := by decide +kernel
theorem dX7_followersOfAll_20 : decode cX7_followersOfAll 20 = .ok (.ifCond .eq 11, 3) := by decide +kernel
theorem dX7_followersOfAll_23 : decode cX7_followersOfAll 23 = .ok (.iload_n 2, 1) := by decide +kernel
theorem dX7_followersOfAll_24 : decode cX7_followersOfAll 24 = .ok (.aload_n 0, 1) := by decide +kernel
theorem dX7_followersOfAll_25 : decode cX7_followersOfAll 25 = .ok (.iload_n 3, 1) := by decide +kernel
theorem dX7_followersOfAll_26 : decode cX7_followersOfAll 26 = .ok (.invokevirtual 47, 3) := by decide +kernel
theorem dX7_followersOfAll_29 : decode cX7_followersOfAll 29 = .ok (.ior, 1) := by decide +kernel
theorem dX7_followersOfAll_30 : decode cX7_followersOfAll 30 = .ok (.istore_n 2, 1) := by decide +kernel
theorem dX7_followersOfAll_31 : decode cX7_followersOfAll 31 = .ok (.iinc 3 1, 3) := by decide +kernel
theorem dX7_followersOfAll_34 : decode cX7_followersOfAll 34 = .ok (.goto (-30), 3) := by decide +kernel
theorem dX7_followersOfAll_37 : decode cX7_followersOfAll 37 = .ok (.iload_n 2, 1) := by decide +kernel
theorem dX7_followersOfAll_38 : decode cX7_followersOfAll 38 = .ok (.ireturn, 1) := by decide +kernel
theorem dX7_isIn_0 : decode cX7_isIn 0 = .ok (.iload_n 0, 1) := by decide +kernel
theorem dX7_isIn_1 : decode cX7_isIn 1 = .ok (.iload_n 1, 1) := by decide +kernel
theorem dX7_isIn_2 : decode cX7_isIn 2 = .ok (.ishr, 1) := by decide +kernel
theorem dX7_isIn_3 : decode cX7_isIn 3 = .ok (.iconst 1, 1) := by decide +kernel
theorem dX7_isIn_4 : decode cX7_isIn 4 = .ok (.iand, 1) := by decide +kernel
theorem dX7_isIn_5 : decode cX7_isIn 5 = .ok (.iconst 1, 1) := by decide +kernel
theorem dX7_isIn_6 : decode cX7_isIn 6 = .ok (.if_icmp .ne 7, 3) := by decide +kernel
theorem dX7_isIn_9 : decode cX7_isIn 9 = .ok (.iconst 1, 1) := by decide +kernel
theorem dX7_isIn_10 : decode cX7_isIn 10 = .ok (.goto 4, 3) := by decide +kernel
theorem dX7_isIn_13 : decode cX7_isIn 13 = .ok (.iconst 0, 1) := by decide +kernel
theorem dX7_isIn_14 : decode cX7_isIn 14 = .ok (.ireturn, 1) := by decide +kernel
theorem dX8_init_0 : decode cX8_init 0 = .ok (.aload_n 0, 1) := by decide +kernel
theorem dX8_init_1 : decode cX8_init 1 = .ok (.invokespecial 1, 3) := by decide +kernel
theorem dX8_init_4 : decode cX8_init 4 = .ok (.aload_n 0, 1) := by decide +kernel
theorem dX8_init_5 : decode cX8_init 5 = .ok (.new 7, 3) := by decide +kernel
theorem dX8_init_8 : decode cX8_init 8 = .ok (.dup, 1) := by decide +kernel
theorem dX8_init_9 : decode cX8_init 9 = .ok (.invokespecial 9, 3) := by decide +kernel
theorem dX8_init_12 : decode cX8_init 12 = .ok (.putfield 10, 3) := by decide +kernel
theorem dX8_init_15 : decode cX8_init 15 = .ok (.aload_n 0, 1) := by decide +kernel
theorem dX8_init_16 : decode cX8_init 16 = .ok (.new 16, 3) := by decide +kernel
theorem dX8_init_19 : decode cX8_init 19 = .ok (.dup, 1) := by decide +kernel
theorem dX8_init_20 : decode cX8_init 20 = .ok (.invokespecial 18, 3) := by decide +kernel
theorem dX8_init_23 : decode cX8_init 23 = .ok (.putfield 19, 3) := by decide +kernel
theorem dX8_init_26 : decode cX8_init 26 = .ok (.aload_n 0, 1) := by decide +kernel
theorem dX8_init_27 : decode cX8_init 27 = .ok (.new 23, 3) := by decide +kernel
theorem dX8_init_30 : decode cX8_init 30 = .ok (.dup, 1) := by decide +kernel
theorem dX8_init_31 : decode cX8_init 31 = .ok (.invokespecial 25, 3) := by decide +kernel
theorem dX8_init_34 : decode cX8_init 34 = .ok (.putfield 26, 3) := by decide +kernel
theorem dX8_init_37 : decode cX8_init 37 = .ok (.aload_n 0, 1) := by decide +kernel
theorem dX8_init_38 : decode cX8_init 38 = .ok (.new 30, 3) := by decide +kernel
theorem dX8_init_41 : decode cX8_init 41 = .ok (.dup, 1) := by decide +kernel
theorem dX8_init_42 : decode cX8_init 42 = .ok (.invokespecial 32, 3) := by decide +kernel
theorem dX8_init_45 : decode cX8_init 45 = .ok (.putfield 33, 3) := by decide +kernel
theorem dX8_init_48 : decode cX8_init 48 = .ok (.aload_n 0, 1) := by decide +kernel
theorem dX8_init_49 : decode cX8_init 49 = .ok (.iconst 2, 1) := by decide +kernel
theorem dX8_init_50 : decode cX8_init 50 = .ok (.anewarray 7, 3) := by decide +kernel
theorem dX8_init_53 : decode cX8_init 53 = .ok (.putfield 37, 3) := by decide +kernel
theorem dX8_init_56 : decode cX8_init 56 = .ok (.return_, 1) := by decide +kernel
theorem dX8_set_0 : decode cX8_set 0 = .ok (.iload_n 1, 1) := by decide +kernel
theorem dX8_set_1 : decode cX8_set 1 = .ok (.ifCond .ne 41, 3) := by decide +kernel
theorem dX8_set_4 : decode cX8_set 4 = .ok (.iload_n 2, 1) := by decide +kernel
theorem dX8_set_5 : decode cX8_set 5 = .ok (.bipush 9, 2) := by decide +kernel
theorem dX8_set_7 : decode cX8_set 7 = .ok (.invokestatic 41, 3) := by decide +kernel
theorem dX8_set_10 : decode cX8_set 10 = .ok (.ifCond .eq 32, 3) := by decide +kernel
theorem dX8_set_13 : decode cX8_set 13 = .ok (.aload_n 0, 1) := by decide +kernel
theorem dX8_set_14 : decode cX8_set 14 = .ok (.getfield 33, 3) := by decide +kernel
theorem dX8_set_17 : decode cX8_set 17 = .ok (.aload_n 0, 1) := by decide +kernel
theorem dX8_set_18 : decode cX8_set 18 = .ok (.getfield 10, 3) := by decide +kernel
theorem dX8_set_21 : decode cX8_set 21 = .ok (.invokevirtual 45, 3) := by decide +kernel
theorem dX8_set_24 : decode cX8_set 24 = .ok (.aload_n 0, 1) := by decide +kernel
theorem dX8_set_25 : decode cX8_set 25 = .ok (.getfield 10, 3) := by decide +kernel
theorem dX8_set_28 : decode cX8_set 28 = .ok (.getfield 49, 3) := by decide +kernel
theorem dX8_set_31 : decode cX8_set 31 = .ok (.istore_n 3, 1) := by decide +kernel
theorem dX8_set_32 : decode cX8_set 32 = .ok (.aload_n 0, 1) := by decide +kernel
theorem dX8_set_33 : decode cX8_set 33 = .ok (.getfield 10, 3) := by decide +kernel
theorem dX8_set_36 : decode cX8_set 36 = .ok (.iload_n 2, 1) := by decide +kernel
theorem dX8_set_37 : decode cX8_set 37 = .ok (.putfield 49, 3) := by decide +kernel
theorem dX8_set_40 : decode cX8_set 40 = .ok (.iload_n 3, 1) := by decide +kernel
theorem dX8_set_41 : decode cX8_set 41 = .ok (.ireturn, 1) := by decide +kernel
theorem dX8_set_42 : decode cX8_set 42 = .ok (.iload_n 1, 1) := by decide +kernel
theorem dX8_set_43 : decode cX8_set 43 = .ok (.iconst 1, 1) := by decide +kernel
theorem dX8_set_44 : decode cX8_set 44 = .ok (.if_icmp .ne 40, 3) := by decide +kernel
theorem dX8_set_47 : decode cX8_set 47 = .ok (.iload_n 2, 1) := by decide +kernel
theorem dX8_set_48 : decode cX8_set 48 = .ok (.iconst 2, 1) := by decide +kernel
theorem dX8_set_49 : decode cX8_set 49 = .ok (.invokestatic 41, 3) := by decide +kernel
theorem dX8_set_52 : decode cX8_set 52 = .ok (.ifCond .eq 32, 3) := by decide +kernel
theorem dX8_set_55 : decode cX8_set 55 = .ok (.aload_n 0, 1) := by decide +kernel
theorem dX8_set_56 : decode cX8_set 56 = .ok (.getfield 33, 3) := by decide +kernel
theorem dX8_set_59 : decode cX8_set 59 = .ok (.aload_n 0, 1) := by decide +kernel
theorem dX8_set_60 : decode cX8_set 60 = .ok (.getfield 10, 3) := by decide +kernel
theorem dX8_set_63 : decode cX8_set 63 = .ok (.invokevirtual 45, 3) := by decide +kernel
theorem dX8_set_66 : decode cX8_set 66 = .ok (.aload_n 0, 1) := by decide +kernel
theorem dX8_set_67 : decode cX8_set 67 = .ok (.getfield 10, 3) := by decide +kernel
theorem dX8_set_70 : decode cX8_set 70 = .ok (.getfield 53, 3) := by decide +kernel
theorem dX8_set_73 : decode cX8_set 73 = .ok (.istore_n 3, 1) := by decide +kernel
theorem dX8_set_74 : decode cX8_set 74 = .ok (.aload_n 0, 1) := by decide +kernel
theorem dX8_set_75 : decode cX8_set 75 = .ok (.getfield 10, 3) := by decide +kernel
theorem dX8_set_78 : decode cX8_set 78 = .ok (.iload_n 2, 1) := by decide +kernel
theorem dX8_set_79 : decode cX8_set 79 = .ok (.putfield 53, 3) := by decide +kernel
theorem dX8_set_82 : decode cX8_set 82 = .ok (.iload_n 3, 1) := by decide +kernel
theorem dX8_set_83 : decode cX8_set 83 = .ok (.ireturn, 1) := by decide +kernel
theorem dX8_set_84 : decode cX8_set 84 = .ok (.bipush (-2), 2) := by decide +kernel
theorem dX8_set_86 : decode cX8_set 86 = .ok (.ireturn, 1) := by decide +kernel
theorem dX8_trigger_0 : decode cX8_trigger 0 = .ok (.iload_n 1, 1) := by decide +kernel
theorem dX8_trigger_1 : decode cX8_trigger 1 = .ok (.iconst 4, 1) := by decide +kernel
theorem dX8_trigger_2 : decode cX8_trigger 2 = .ok (.invokestatic 41, 3) := by decide +kernel
theorem dX8_trigger_5 : decode cX8_trigger 5 = .ok (.ifCond .ne 5, 3) := by decide +kernel
theorem dX8_trigger_8 : decode cX8_trigger 8 = .ok (.iconst (-1), 1) := by decide +kernel
theorem dX8_trigger_9 : decode cX8_trigger 9 = .ok (.ireturn, 1) := by decide +kernel
theorem dX8_trigger_10 : decode cX8_trigger 10 = .ok (.iload_n 2, 1) := by decide +kernel
theorem dX8_trigger_11 : decode cX8_trigger 11 = .ok (.iconst 3, 1) := by decide +kernel
theorem dX8_trigger_12 : decode cX8_trigger 12 = .ok (.invokestatic 41, 3) := by decide +kernel
theorem dX8_trigger_15 : decode cX8_trigger 15 = .ok (.ifCond .eq 22, 3) := by decide +kernel
theorem dX8_trigger_18 : decode cX8_trigger 18 = .ok (.iload_n 3, 1) := by decide +kernel
theorem dX8_trigger_19 : decode cX8_trigger 19 = .ok (.iconst 3, 1) := by decide +kernel
theorem dX8_trigger_20 : decode cX8_trigger 20 = .ok (.invokestatic 41, 3) := by decide +kernel
theorem dX8_trigger_23 : decode cX8_trigger 23 = .ok (.ifCond .eq 14, 3) := by decide +kernel
theorem dX8_trigger_26 : decode cX8_trigger 26 = .ok (.iload 4, 2) := by decide +kernel
theorem dX8_trigger_28 : decode cX8_trigger 28 = .ok (.sipush 1000, 3) := by decide +kernel
theorem dX8_trigger_31 : decode cX8_trigger 31 = .ok (.invokestatic 41, 3) := by decide +kernel
theorem dX8_trigger_34 : decode cX8_trigger 34 = .ok (.ifCond .ne 6, 3) := by decide +kernel
theorem dX8_trigger_37 : decode cX8_trigger 37 = .ok (.bipush (-2), 2) := by decide +kernel
theorem dX8_trigger_39 : decode cX8_trigger 39 = .ok (.ireturn, 1) := by decide +kernel
theorem dX8_trigger_40 : decode cX8_trigger 40 = .ok (.aload_n 0, 1) := by decide +kernel
theorem dX8_trigger_41 : decode cX8_trigger 41 = .ok (.getfield 10, 3) := by decide +kernel
theorem dX8_trigger_44 : decode cX8_trigger 44 = .ok (.getfield 56, 3) := by decide +kernel
theorem dX8_trigger_47 : decode cX8_trigger 47 = .ok (.invokevirtual 60, 3) := by decide +kernel
theorem dX8_trigger_50 : decode cX8_trigger 50 = .ok (.bipush 12, 2) := by decide +kernel
theorem dX8_trigger_52 : decode cX8_trigger 52 = .ok (.if_icmp .lt 6, 3) := by decide +kernel
theorem dX8_trigger_55 : decode cX8_trigger 55 = .ok (.bipush (-4), 2) := by decide +kernel
theorem dX8_trigger_57 : decode cX8_trigger 57 = .ok (.ireturn, 1) := by decide +kernel
theorem dX8_trigger_58 : decode cX8_trigger 58 = .ok (.aload_n 0, 1) := by decide +kernel
theorem dX8_trigger_59 : decode cX8_trigger 59 = .ok (.getfield 33, 3) := by decide +kernel
theorem dX8_trigger_62 : decode cX8_trigger 62 = .ok (.aload_n 0, 1) := by decide +kernel
theorem dX8_trigger_63 : decode cX8_trigger 63 = .ok (.getfield 10, 3) := by decide +kernel
theorem dX8_trigger_66 : decode cX8_trigger 66 = .ok (.invokevirtual 45, 3) := by decide +kernel
theorem dX8_trigger_69 : decode cX8_trigger 69 = .ok (.aload_n 0, 1) := by decide +kernel
theorem dX8_trigger_70 : decode cX8_trigger 70 = .ok (.getfield 10, 3) := by decide +kernel
theorem dX8_trigger_73 : decode cX8_trigger 73 = .ok (.getfield 56, 3) := by decide +kernel
theorem dX8_trigger_76 : decode cX8_trigger 76 = .ok (.iload_n 1, 1) := by decide +kernel
theorem dX8_trigger_77 : decode cX8_trigger 77 = .ok (.iload_n 2, 1) := by decide +kernel
theorem dX8_trigger_78 : decode cX8_trigger 78 = .ok (.iload_n 3, 1) := by decide +kernel
theorem dX8_trigger_79 : decode cX8_trigger 79 = .ok (.iload 4, 2) := by decide +kernel
theorem dX8_trigger_81 : decode cX8_trigger 81 = .ok (.invokevirtual 66, 3) := by decide +kernel
theorem dX8_trigger_84 : decode cX8_trigger 84 = .ok (.ireturn, 1) := by decide +kernel
theorem dX8_deed_0 : decode cX8_deed 0 = .ok (.iload_n 1, 1) := by decide +kernel
theorem dX8_deed_1 : decode cX8_deed 1 = .ok (.aload_n 0, 1) := by decide +kernel
theorem dX8_deed_2 : decode cX8_deed 2 = .ok (.getfield 10, 3) := by decide +kernel
theorem dX8_deed_5 : decode cX8_deed 5 = .ok (.getfield 56, 3) := by decide +kernel
theorem dX8_deed_8 : decode cX8_deed 8 = .ok (.invokevirtual 60, 3) := by decide +kernel
theorem dX8_deed_11 : decode cX8_deed 11 = .ok (.invokestatic 41, 3) := by decide +kernel
theorem dX8_deed_14 : decode cX8_deed 14 = .ok (.ifCond .eq 11, 3) := by decide +kernel
theorem dX8_deed_17 : decode cX8_deed 17 = .ok (.iload_n 3, 1) := by decide +kernel
theorem dX8_deed_18 : decode cX8_deed 18 = .ok (.iconst 4, 1) := by decide +kernel
theorem dX8_deed_19 : decode cX8_deed 19 = .ok (.invokestatic 41, 3) := by decide +kernel
theorem dX8_deed_22 : decode cX8_deed 22 = .ok (.ifCond .ne 5, 3) := by decide +kernel
theorem dX8_deed_25 : decode cX8_deed 25 = .ok (.iconst (-1), 1) := by decide +kernel
theorem dX8_deed_26 : decode cX8_deed 26 = .ok (.ireturn, 1) := by decide +kernel
theorem dX8_deed_27 : decode cX8_deed 27 = .ok (.iload_n 2, 1) := by decide +kernel
theorem dX8_deed_28 : decode cX8_deed 28 = .ok (.iconst 4, 1) := by decide +kernel
theorem dX8_deed_29 : decode cX8_deed 29 = .ok (.invokestatic 41, 3) := by decide +kernel
theorem dX8_deed_32 : decode cX8_deed 32 = .ok (.ifCond .eq 24, 3) := by decide +kernel
theorem dX8_deed_35 : decode cX8_deed 35 = .ok (.iload 4, 2) := by decide +kernel
theorem dX8_deed_37 : decode cX8_deed 37 = .ok (.bipush 100, 2) := by decide +kernel
theorem dX8_deed_39 : decode cX8_deed 39 = .ok (.invokestatic 41, 3) := by decide +kernel
theorem dX8_deed_42 : decode cX8_deed 42 = .ok (.ifCond .eq 14, 3) := by decide +kernel
theorem dX8_deed_45 : decode cX8_deed 45 = .ok (.iload 5, 2) := by decide +kernel
theorem dX8_deed_47 : decode cX8_deed 47 = .ok (.sipush 1000, 3) := by decide +kernel
theorem dX8_deed_50 : decode cX8_deed 50 = .ok (.invokestatic 41, 3) := by decide +kernel
theorem dX8_deed_53 : decode cX8_deed 53 = .ok (.ifCond .ne 6, 3) := by decide +kernel
theorem dX8_deed_56 : decode cX8_deed 56 = .ok (.bipush (-2), 2) := by decide +kernel
theorem dX8_deed_58 : decode cX8_deed 58 = .ok (.ireturn, 1) := by decide +kernel
theorem dX8_deed_59 : decode cX8_deed 59 = .ok (.aload_n 0, 1) := by decide +kernel
theorem dX8_deed_60 : decode cX8_deed 60 = .ok (.getfield 33, 3) := by decide +kernel
theorem dX8_deed_63 : decode cX8_deed 63 = .ok (.aload_n 0, 1) := by decide +kernel
theorem dX8_deed_64 : decode cX8_deed 64 = .ok (.getfield 10, 3) := by decide +kernel
theorem dX8_deed_67 : decode cX8_deed 67 = .ok (.invokevirtual 45, 3) := by decide +kernel
theorem dX8_deed_70 : decode cX8_deed 70 = .ok (.aload_n 0, 1) := by decide +kernel
theorem dX8_deed_71 : decode cX8_deed 71 = .ok (.getfield 10, 3) := by decide +kernel
theorem dX8_deed_74 : decode cX8_deed 74 = .ok (.getfield 56, 3) := by decide +kernel
theorem dX8_deed_77 : decode cX8_deed 77 = .ok (.iload_n 1, 1) := by decide +kernel
theorem dX8_deed_78 : decode cX8_deed 78 = .ok (.iconst 4, 1) := by decide +kernel
theorem dX8_deed_79 : decode cX8_deed 79 = .ok (.invokevirtual 70, 3) := by decide +kernel
theorem dX8_deed_82 : decode cX8_deed 82 = .ok (.istore 6, 2) := by decide +kernel
theorem dX8_deed_84 : decode cX8_deed 84 = .ok (.aload_n 0, 1) := by decide +kernel
theorem dX8_deed_85 : decode cX8_deed 85 = .ok (.getfield 10, 3) := by decide +kernel
theorem dX8_deed_88 : decode cX8_deed 88 = .ok (.getfield 56, 3) := by decide +kernel
theorem dX8_deed_91 : decode cX8_deed 91 = .ok (.iload_n 1, 1) := by decide +kernel
theorem dX8_deed_92 : decode cX8_deed 92 = .ok (.iload_n 2, 1) := by decide +kernel
theorem dX8_deed_93 : decode cX8_deed 93 = .ok (.iload_n 3, 1) := by decide +kernel
theorem dX8_deed_94 : decode cX8_deed 94 = .ok (.iload 4, 2) := by decide +kernel
theorem dX8_deed_96 : decode cX8_deed 96 = .ok (.iload 5, 2) := by decide +kernel
theorem dX8_deed_98 : decode cX8_deed 98 = .ok (.invokevirtual 74, 3) := by decide +kernel
theorem dX8_deed_101 : decode cX8_deed 101 = .ok (.iload 6, 2) := by decide +kernel
theorem dX8_deed_103 : decode cX8_deed 103 = .ok (.ireturn, 1) := by decide +kernel
theorem dX8_dropTrigger_0 : decode cX8_dropTrigger 0 = .ok (.iload_n 1, 1) := by decide +kernel
theorem dX8_dropTrigger_1 : decode cX8_dropTrigger 1 = .ok (.aload_n 0, 1) := by decide +kernel
theorem dX8_dropTrigger_2 : decode cX8_dropTrigger 2 = .ok (.getfield 10, 3) := by decide +kernel
theorem dX8_dropTrigger_5 : decode cX8_dropTrigger 5 = .ok (.getfield 56, 3) := by decide +kernel
theorem dX8_dropTrigger_8 : decode cX8_dropTrigger 8 = .ok (.invokevirtual 60, 3) := by decide +kernel
theorem dX8_dropTrigger_11 : decode cX8_dropTrigger 11 = .ok (.invokestatic 41, 3) := by decide +kernel
theorem dX8_dropTrigger_14 : decode cX8_dropTrigger 14 = .ok (.ifCond .ne 5, 3) := by decide +kernel
theorem dX8_dropTrigger_17 : decode cX8_dropTrigger 17 = .ok (.iconst (-1), 1) := by decide +kernel
theorem dX8_dropTrigger_18 : decode cX8_dropTrigger 18 = .ok (.ireturn, 1) := by decide +kernel
theorem dX8_dropTrigger_19 : decode cX8_dropTrigger 19 = .ok (.aload_n 0, 1) := by decide +kernel
theorem dX8_dropTrigger_20 : decode cX8_dropTrigger 20 = .ok (.getfield 33, 3) := by decide +kernel
theorem dX8_dropTrigger_23 : decode cX8_dropTrigger 23 = .ok (.aload_n 0, 1) := by decide +kernel
theorem dX8_dropTrigger_24 : decode cX8_dropTrigger 24 = .ok (.getfield 10, 3) := by decide +kernel
theorem dX8_dropTrigger_27 : decode cX8_dropTrigger 27 = .ok (.invokevirtual 45, 3) := by decide +kernel
theorem dX8_dropTrigger_30 : decode cX8_dropTrigger 30 = .ok (.aload_n 0, 1) := by decide +kernel
theorem dX8_dropTrigger_31 : decode cX8_dropTrigger 31 = .ok (.getfield 10, 3) := by decide +kernel
theorem dX8_dropTrigger_34 : decode cX8_dropTrigger 34 = .ok (.getfield 56, 3) := by decide +kernel
theorem dX8_dropTrigger_37 : decode cX8_dropTrigger 37 = .ok (.iload_n 1, 1) := by decide +kernel
theorem dX8_dropTrigger_38 : decode cX8_dropTrigger 38 = .ok (.invokevirtual 78, 3) := by decide +kernel
theorem dX8_dropTrigger_41 : decode cX8_dropTrigger 41 = .ok (.aload_n 0, 1) := by decide +kernel
theorem dX8_dropTrigger_42 : decode cX8_dropTrigger 42 = .ok (.getfield 10, 3) := by decide +kernel
theorem dX8_dropTrigger_45 : decode cX8_dropTrigger 45 = .ok (.getfield 56, 3) := by decide +kernel
theorem dX8_dropTrigger_48 : decode cX8_dropTrigger 48 = .ok (.invokevirtual 60, 3) := by decide +kernel
theorem dX8_dropTrigger_51 : decode cX8_dropTrigger 51 = .ok (.ireturn, 1) := by decide +kernel
theorem dX8_state_0 : decode cX8_state 0 = .ok (.iload_n 1, 1) := by decide +kernel
theorem dX8_state_1 : decode cX8_state 1 = .ok (.iload_n 2, 1) := by decide +kernel
theorem dX8_state_2 : decode cX8_state 2 = .ok (.iload_n 3, 1) := by decide +kernel
theorem dX8_state_3 : decode cX8_state 3 = .ok (.iload 4, 2) := by decide +kernel
theorem dX8_state_5 : decode cX8_state 5 = .ok (.invokestatic 82, 3) := by decide +kernel
theorem dX8_state_8 : decode cX8_state 8 = .ok (.istore 5, 2) := by decide +kernel
theorem dX8_state_10 : decode cX8_state 10 = .ok (.iload 5, 2) := by decide +kernel
theorem dX8_state_12 : decode cX8_state 12 = .ok (.ifCond .eq 6, 3) := by decide +kernel
theorem dX8_state_15 : decode cX8_state 15 = .ok (.iload 5, 2) := by decide +kernel
theorem dX8_state_17 : decode cX8_state 17 = .ok (.ireturn, 1) := by decide +kernel
theorem dX8_state_18 : decode cX8_state 18 = .ok (.aload_n 0, 1) := by decide +kernel
theorem dX8_state_19 : decode cX8_state 19 = .ok (.getfield 19, 3) := by decide +kernel
theorem dX8_state_22 : decode cX8_state 22 = .ok (.aload_n 0, 1) := by decide +kernel
theorem dX8_state_23 : decode cX8_state 23 = .ok (.getfield 10, 3) := by decide +kernel
theorem dX8_state_26 : decode cX8_state 26 = .ok (.iload_n 1, 1) := by decide +kernel
theorem dX8_state_27 : decode cX8_state 27 = .ok (.iload_n 2, 1) := by decide +kernel
theorem dX8_state_28 : decode cX8_state 28 = .ok (.iload_n 3, 1) := by decide +kernel
theorem dX8_state_29 : decode cX8_state 29 = .ok (.iload 4, 2) := by decide +kernel
theorem dX8_state_31 : decode cX8_state 31 = .ok (.aload_n 0, 1) := by decide +kernel
theorem dX8_state_32 : decode cX8_state 32 = .ok (.getfield 10, 3) := by decide +kernel
theorem dX8_state_35 : decode cX8_state 35 = .ok (.getfield 49, 3) := by decide +kernel
theorem dX8_state_38 : decode cX8_state 38 = .ok (.iconst (-1), 1) := by decide +kernel
theorem dX8_state_39 : decode cX8_state 39 = .ok (.invokevirtual 85, 3) := by decide +kernel
theorem dX8_state_42 : decode cX8_state 42 = .ok (.aload_n 0, 1) := by decide +kernel
theorem dX8_state_43 : decode cX8_state 43 = .ok (.getfield 19, 3) := by decide +kernel
theorem dX8_state_46 : decode cX8_state 46 = .ok (.getfield 89, 3) := by decide +kernel
theorem dX8_state_49 : decode cX8_state 49 = .ok (.invokevirtual 93, 3) := by decide +kernel
theorem dX8_state_52 : decode cX8_state 52 = .ok (.ifCond .eq 6, 3) := by decide +kernel
theorem dX8_state_55 : decode cX8_state 55 = .ok (.bipush (-5), 2) := by decide +kernel
theorem dX8_state_57 : decode cX8_state 57 = .ok (.ireturn, 1) := by decide +kernel
theorem dX8_state_58 : decode cX8_state 58 = .ok (.aload_n 0, 1) := by decide +kernel
theorem dX8_state_59 : decode cX8_state 59 = .ok (.getfield 33, 3) := by decide +kernel
theorem dX8_state_62 : decode cX8_state 62 = .ok (.aload_n 0, 1) := by decide +kernel
theorem dX8_state_63 : decode cX8_state 63 = .ok (.getfield 10, 3) := by decide +kernel
theorem dX8_state_66 : decode cX8_state 66 = .ok (.invokevirtual 45, 3) := by decide +kernel
theorem dX8_state_69 : decode cX8_state 69 = .ok (.aload_n 0, 1) := by decide +kernel
theorem dX8_state_70 : decode cX8_state 70 = .ok (.invokevirtual 99, 3) := by decide +kernel
theorem dX8_state_73 : decode cX8_state 73 = .ok (.aload_n 0, 1) := by decide +kernel
theorem dX8_state_74 : decode cX8_state 74 = .ok (.getfield 10, 3) := by decide +kernel
theorem dX8_state_77 : decode cX8_state 77 = .ok (.getfield 102, 3) := by decide +kernel
theorem dX8_state_80 : decode cX8_state 80 = .ok (.invokevirtual 106, 3) := by decide +kernel
theorem dX8_state_83 : decode cX8_state 83 = .ok (.ireturn, 1) := by decide +kernel
theorem dX8_tried_0 : decode cX8_tried 0 = .ok (.iload_n 1, 1) := by decide +kernel
theorem dX8_tried_1 : decode cX8_tried 1 = .ok (.iload_n 2, 1) := by decide +kernel
theorem dX8_tried_2 : decode cX8_tried 2 = .ok (.iload_n 3, 1) := by decide +kernel
theorem dX8_tried_3 : decode cX8_tried 3 = .ok (.iload 4, 2) := by decide +kernel
theorem dX8_tried_5 : decode cX8_tried 5 = .ok (.invokestatic 82, 3) := by decide +kernel
theorem dX8_tried_8 : decode cX8_tried 8 = .ok (.istore 6, 2) := by decide +kernel
theorem dX8_tried_10 : decode cX8_tried 10 = .ok (.iload 6, 2) := by decide +kernel
theorem dX8_tried_12 : decode cX8_tried 12 = .ok (.ifCond .eq 6, 3) := by decide +kernel
theorem dX8_tried_15 : decode cX8_tried 15 = .ok (.iload 6, 2) := by decide +kernel
theorem dX8_tried_17 : decode cX8_tried 17 = .ok (.ireturn, 1) := by decide +kernel
theorem dX8_tried_18 : decode cX8_tried 18 = .ok (.iload 5, 2) := by decide +kernel
theorem dX8_tried_20 : decode cX8_tried 20 = .ok (.bipush 21, 2) := by decide +kernel
theorem dX8_tried_22 : decode cX8_tried 22 = .ok (.invokestatic 41, 3) := by decide +kernel
theorem dX8_tried_25 : decode cX8_tried 25 = .ok (.ifCond .ne 6, 3) := by decide +kernel
theorem dX8_tried_28 : decode cX8_tried 28 = .ok (.bipush (-2), 2) := by decide +kernel
theorem dX8_tried_30 : decode cX8_tried 30 = .ok (.ireturn, 1) := by decide +kernel
theorem dX8_tried_31 : decode cX8_tried 31 = .ok (.aload_n 0, 1) := by decide +kernel
theorem dX8_tried_32 : decode cX8_tried 32 = .ok (.getfield 19, 3) := by decide +kernel
theorem dX8_tried_35 : decode cX8_tried 35 = .ok (.aload_n 0, 1) := by decide +kernel
theorem dX8_tried_36 : decode cX8_tried 36 = .ok (.getfield 10, 3) := by decide +kernel
theorem dX8_tried_39 : decode cX8_tried 39 = .ok (.iload_n 1, 1) := by decide +kernel
theorem dX8_tried_40 : decode cX8_tried 40 = .ok (.iload_n 2, 1) := by decide +kernel
theorem dX8_tried_41 : decode cX8_tried 41 = .ok (.iload_n 3, 1) := by decide +kernel
theorem dX8_tried_42 : decode cX8_tried 42 = .ok (.iload 4, 2) := by decide +kernel
theorem dX8_tried_44 : decode cX8_tried 44 = .ok (.aload_n 0, 1) := by decide +kernel
theorem dX8_tried_45 : decode cX8_tried 45 = .ok (.getfield 10, 3) := by decide +kernel
theorem dX8_tried_48 : decode cX8_tried 48 = .ok (.getfield 49, 3) := by decide +kernel
theorem dX8_tried_51 : decode cX8_tried 51 = .ok (.iconst (-1), 1) := by decide +kernel
theorem dX8_tried_52 : decode cX8_tried 52 = .ok (.invokevirtual 85, 3) := by decide +kernel
theorem dX8_tried_55 : decode cX8_tried 55 = .ok (.aload_n 0, 1) := by decide +kernel
theorem dX8_tried_56 : decode cX8_tried 56 = .ok (.getfield 19, 3) := by decide +kernel
theorem dX8_tried_59 : decode cX8_tried 59 = .ok (.getfield 89, 3) := by decide +kernel
theorem dX8_tried_62 : decode cX8_tried 62 = .ok (.astore 7, 2) := by decide +kernel
theorem dX8_tried_64 : decode cX8_tried 64 = .ok (.iload 5, 2) := by decide +kernel
theorem dX8_tried_66 : decode cX8_tried 66 = .ok (.tableswitch 120 0 7 #[46, 52, 75, 86, 94, 102, 108, 114], 46) := by decide +kernel
theorem dX8_tried_112 : decode cX8_tried 112 = .ok (.aload 7, 2) := by decide +kernel
theorem dX8_tried_114 : decode cX8_tried 114 = .ok (.getfield 109, 3) := by decide +kernel
theorem dX8_tried_117 : decode cX8_tried 117 = .ok (.ireturn, 1) := by decide +kernel
theorem dX8_tried_118 : decode cX8_tried 118 = .ok (.aload 7, 2) := by decide +kernel
theorem dX8_tried_120 : decode cX8_tried 120 = .ok (.invokevirtual 93, 3) := by decide +kernel
theorem dX8_tried_123 : decode cX8_tried 123 = .ok (.ifCond .eq 7, 3) := by decide +kernel
theorem dX8_tried_126 : decode cX8_tried 126 = .ok (.iconst 0, 1) := by decide +kernel
theorem dX8_tried_127 : decode cX8_tried 127 = .ok (.goto 13, 3) := by decide +kernel
theorem dX8_tried_130 : decode cX8_tried 130 = .ok (.aload_n 0, 1) := by decide +kernel
theorem dX8_tried_131 : decode cX8_tried 131 = .ok (.getfield 19, 3) := by decide +kernel
theorem dX8_tried_134 : decode cX8_tried 134 = .ok (.getfield 112, 3) := by decide +kernel
theorem dX8_tried_137 : decode cX8_tried 137 = .ok (.invokevirtual 106, 3) := by decide +kernel
theorem dX8_tried_140 : decode cX8_tried 140 = .ok (.ireturn, 1) := by decide +kernel
theorem dX8_tried_141 : decode cX8_tried 141 = .ok (.aload_n 0, 1) := by decide +kernel
theorem dX8_tried_142 : decode cX8_tried 142 = .ok (.getfield 19, 3) := by decide +kernel
theorem dX8_tried_145 : decode cX8_tried 145 = .ok (.getfield 113, 3) := by decide +kernel
theorem dX8_tried_148 : decode cX8_tried 148 = .ok (.invokevirtual 106, 3) := by decide +kernel
theorem dX8_tried_151 : decode cX8_tried 151 = .ok (.ireturn, 1) := by decide +kernel
theorem dX8_tried_152 : decode cX8_tried 152 = .ok (.aload_n 0, 1) := by decide +kernel
theorem dX8_tried_153 : decode cX8_tried 153 = .ok (.getfield 19, 3) := by decide +kernel
theorem dX8_tried_156 : decode cX8_tried 156 = .ok (.getfield 116, 3) := by decide +kernel
theorem dX8_tried_159 : decode cX8_tried 159 = .ok (.ireturn, 1) := by decide +kernel
theorem dX8_tried_160 : decode cX8_tried 160 = .ok (.aload_n 0, 1) := by decide +kernel
theorem dX8_tried_161 : decode cX8_tried 161 = .ok (.getfield 19, 3) := by decide +kernel
theorem dX8_tried_164 : decode cX8_tried 164 = .ok (.invokevirtual 119, 3) := by decide +kernel
theorem dX8_tried_167 : decode cX8_tried 167 = .ok (.ireturn, 1) := by decide +kernel
theorem dX8_tried_168 : decode cX8_tried 168 = .ok (.aload 7, 2) := by decide +kernel
theorem dX8_tried_170 : decode cX8_tried 170 = .ok (.getfield 122, 3) := by decide +kernel
theorem dX8_tried_173 : decode cX8_tried 173 = .ok (.ireturn, 1) := by decide +kernel
theorem dX8_tried_174 : decode cX8_tried 174 = .ok (.aload 7, 2) := by decide +kernel
theorem dX8_tried_176 : decode cX8_tried 176 = .ok (.getfield 125, 3) := by decide +kernel
theorem dX8_tried_179 : decode cX8_tried 179 = .ok (.ireturn, 1) := by decide +kernel
theorem dX8_tried_180 : decode cX8_tried 180 = .ok (.aload 7, 2) := by decide +kernel
theorem dX8_tried_182 : decode cX8_tried 182 = .ok (.getfield 128, 3) := by decide +kernel
theorem dX8_tried_185 : decode cX8_tried 185 = .ok (.ireturn, 1) := by decide +kernel
theorem dX8_tried_186 : decode cX8_tried 186 = .ok (.aload 7, 2) := by decide +kernel
theorem dX8_tried_188 : decode cX8_tried 188 = .ok (.iload 5, 2) := by decide +kernel
theorem dX8_tried_190 : decode cX8_tried 190 = .ok (.bipush 8, 2) := by decide +kernel
theorem dX8_tried_192 : decode cX8_tried 192 = .ok (.isub, 1) := by decide +kernel
theorem dX8_tried_193 : decode cX8_tried 193 = .ok (.invokevirtual 131, 3) := by decide +kernel
theorem dX8_tried_196 : decode cX8_tried 196 = .ok (.ireturn, 1) := by decide +kernel
theorem dX8_row_0 : decode cX8_row 0 = .ok (.iload_n 1, 1) := by decide +kernel
theorem dX8_row_1 : decode cX8_row 1 = .ok (.iconst 4, 1) := by decide +kernel
theorem dX8_row_2 : decode cX8_row 2 = .ok (.invokestatic 41, 3) := by decide +kernel
theorem dX8_row_5 : decode cX8_row 5 = .ok (.ifCond .eq 21, 3) := by decide +kernel
theorem dX8_row_8 : decode cX8_row 8 = .ok (.iload_n 2, 1) := by decide +kernel
theorem dX8_row_9 : decode cX8_row 9 = .ok (.aload_n 0, 1) := by decide +kernel
theorem dX8_row_10 : decode cX8_row 10 = .ok (.getfield 10, 3) := by decide +kernel
theorem dX8_row_13 : decode cX8_row 13 = .ok (.getfield 135, 3) := by decide +kernel
theorem dX8_row_16 : decode cX8_row 16 = .ok (.iload_n 1, 1) := by decide +kernel
theorem dX8_row_17 : decode cX8_row 17 = .ok (.invokevirtual 139, 3) := by decide +kernel
theorem dX8_row_20 : decode cX8_row 20 = .ok (.invokestatic 41, 3) := by decide +kernel
theorem dX8_row_23 : decode cX8_row 23 = .ok (.ifCond .ne 5, 3) := by decide +kernel
theorem dX8_row_26 : decode cX8_row 26 = .ok (.iconst (-1), 1) := by decide +kernel
theorem dX8_row_27 : decode cX8_row 27 = .ok (.ireturn, 1) := by decide +kernel
theorem dX8_row_28 : decode cX8_row 28 = .ok (.iload_n 3, 1) := by decide +kernel
theorem dX8_row_29 : decode cX8_row 29 = .ok (.lookupswitch 53 #[(0, 27), (1, 40)], 27) := by decide +kernel
theorem dX8_row_56 : decode cX8_row 56 = .ok (.aload_n 0, 1) := by decide +kernel
theorem dX8_row_57 : decode cX8_row 57 = .ok (.getfield 10, 3) := by decide +kernel
theorem dX8_row_60 : decode cX8_row 60 = .ok (.getfield 135, 3) := by decide +kernel
theorem dX8_row_63 : decode cX8_row 63 = .ok (.iload_n 1, 1) := by decide +kernel
theorem dX8_row_64 : decode cX8_row 64 = .ok (.iload_n 2, 1) := by decide +kernel
theorem dX8_row_65 : decode cX8_row 65 = .ok (.invokevirtual 144, 3) := by decide +kernel
theorem dX8_row_68 : decode cX8_row 68 = .ok (.ireturn, 1) := by decide +kernel
theorem dX8_row_69 : decode cX8_row 69 = .ok (.aload_n 0, 1) := by decide +kernel
theorem dX8_row_70 : decode cX8_row 70 = .ok (.getfield 10, 3) := by decide +kernel
theorem dX8_row_73 : decode cX8_row 73 = .ok (.getfield 135, 3) := by decide +kernel
theorem dX8_row_76 : decode cX8_row 76 = .ok (.iload_n 1, 1) := by decide +kernel
theorem dX8_row_77 : decode cX8_row 77 = .ok (.iload_n 2, 1) := by decide +kernel
theorem dX8_row_78 : decode cX8_row 78 = .ok (.invokevirtual 147, 3) := by decide +kernel
theorem dX8_row_81 : decode cX8_row 81 = .ok (.ireturn, 1) := by decide +kernel
theorem dX8_row_82 : decode cX8_row 82 = .ok (.bipush (-2), 2) := by decide +kernel
theorem dX8_row_84 : decode cX8_row 84 = .ok (.ireturn, 1) := by decide +kernel
theorem dX8_value_0 : decode cX8_value 0 = .ok (.iload_n 1, 1) := by decide +kernel
theorem dX8_value_1 : decode cX8_value 1 = .ok (.iconst 4, 1) := by decide +kernel
theorem dX8_value_2 : decode cX8_value 2 = .ok (.invokestatic 41, 3) := by decide +kernel
theorem dX8_value_5 : decode cX8_value 5 = .ok (.ifCond .ne 5, 3) := by decide +kernel
theorem dX8_value_8 : decode cX8_value 8 = .ok (.iconst (-1), 1) := by decide +kernel
theorem dX8_value_9 : decode cX8_value 9 = .ok (.ireturn, 1) := by decide +kernel
theorem dX8_value_10 : decode cX8_value 10 = .ok (.iload_n 2, 1) := by decide +kernel
theorem dX8_value_11 : decode cX8_value 11 = .ok (.bipush 100, 2) := by decide +kernel
theorem dX8_value_13 : decode cX8_value 13 = .ok (.invokestatic 41, 3) := by decide +kernel
theorem dX8_value_16 : decode cX8_value 16 = .ok (.ifCond .ne 6, 3) := by decide +kernel
theorem dX8_value_19 : decode cX8_value 19 = .ok (.bipush (-2), 2) := by decide +kernel
theorem dX8_value_21 : decode cX8_value 21 = .ok (.ireturn, 1) := by decide +kernel
theorem dX8_value_22 : decode cX8_value 22 = .ok (.aload_n 0, 1) := by decide +kernel
theorem dX8_value_23 : decode cX8_value 23 = .ok (.getfield 10, 3) := by decide +kernel
theorem dX8_value_26 : decode cX8_value 26 = .ok (.getfield 135, 3) := by decide +kernel
theorem dX8_value_29 : decode cX8_value 29 = .ok (.iload_n 1, 1) := by decide +kernel
theorem dX8_value_30 : decode cX8_value 30 = .ok (.iload_n 2, 1) := by decide +kernel
theorem dX8_value_31 : decode cX8_value 31 = .ok (.invokevirtual 150, 3) := by decide +kernel
theorem dX8_value_34 : decode cX8_value 34 = .ok (.istore_n 3, 1) := by decide +kernel
theorem dX8_value_35 : decode cX8_value 35 = .ok (.iload_n 3, 1) := by decide +kernel
theorem dX8_value_36 : decode cX8_value 36 = .ok (.iconst (-1), 1) := by decide +kernel
theorem dX8_value_37 : decode cX8_value 37 = .ok (.if_icmp .ne 8, 3) := by decide +kernel
theorem dX8_value_40 : decode cX8_value 40 = .ok (.bipush (-6), 2) := by decide +kernel
theorem dX8_value_42 : decode cX8_value 42 = .ok (.goto 15, 3) := by decide +kernel
theorem dX8_value_45 : decode cX8_value 45 = .ok (.aload_n 0, 1) := by decide +kernel
theorem dX8_value_46 : decode cX8_value 46 = .ok (.getfield 10, 3) := by decide +kernel
theorem dX8_value_49 : decode cX8_value 49 = .ok (.getfield 135, 3) := by decide +kernel
theorem dX8_value_52 : decode cX8_value 52 = .ok (.iload_n 1, 1) := by decide +kernel
theorem dX8_value_53 : decode cX8_value 53 = .ok (.iload_n 3, 1) := by decide +kernel
theorem dX8_value_54 : decode cX8_value 54 = .ok (.invokevirtual 147, 3) := by decide +kernel
theorem dX8_value_57 : decode cX8_value 57 = .ok (.ireturn, 1) := by decide +kernel
theorem dX8_ofTrigger_0 : decode cX8_ofTrigger 0 = .ok (.iload_n 1, 1) := by decide +kernel
theorem dX8_ofTrigger_1 : decode cX8_ofTrigger 1 = .ok (.aload_n 0, 1) := by decide +kernel
theorem dX8_ofTrigger_2 : decode cX8_ofTrigger 2 = .ok (.getfield 10, 3) := by decide +kernel
theorem dX8_ofTrigger_5 : decode cX8_ofTrigger 5 = .ok (.getfield 56, 3) := by decide +kernel
theorem dX8_ofTrigger_8 : decode cX8_ofTrigger 8 = .ok (.invokevirtual 60, 3) := by decide +kernel
theorem dX8_ofTrigger_11 : decode cX8_ofTrigger 11 = .ok (.invokestatic 41, 3) := by decide +kernel
theorem dX8_ofTrigger_14 : decode cX8_ofTrigger 14 = .ok (.ifCond .ne 5, 3) := by decide +kernel
theorem dX8_ofTrigger_17 : decode cX8_ofTrigger 17 = .ok (.iconst (-1), 1) := by decide +kernel
theorem dX8_ofTrigger_18 : decode cX8_ofTrigger 18 = .ok (.ireturn, 1) := by decide +kernel
theorem dX8_ofTrigger_19 : decode cX8_ofTrigger 19 = .ok (.iload_n 2, 1) := by decide +kernel
theorem dX8_ofTrigger_20 : decode cX8_ofTrigger 20 = .ok (.bipush 8, 2) := by decide +kernel
theorem dX8_ofTrigger_22 : decode cX8_ofTrigger 22 = .ok (.invokestatic 41, 3) := by decide +kernel
theorem dX8_ofTrigger_25 : decode cX8_ofTrigger 25 = .ok (.ifCond .eq 16, 3) := by decide +kernel
theorem dX8_ofTrigger_28 : decode cX8_ofTrigger 28 = .ok (.aload_n 0, 1) := by decide +kernel
theorem dX8_ofTrigger_29 : decode cX8_ofTrigger 29 = .ok (.getfield 10, 3) := by decide +kernel
theorem dX8_ofTrigger_32 : decode cX8_ofTrigger 32 = .ok (.getfield 56, 3) := by decide +kernel
theorem dX8_ofTrigger_35 : decode cX8_ofTrigger 35 = .ok (.iload_n 1, 1) := by decide +kernel
theorem dX8_ofTrigger_36 : decode cX8_ofTrigger 36 = .ok (.iload_n 2, 1) := by decide +kernel
theorem dX8_ofTrigger_37 : decode cX8_ofTrigger 37 = .ok (.invokevirtual 70, 3) := by decide +kernel
theorem dX8_ofTrigger_40 : decode cX8_ofTrigger 40 = .ok (.ireturn, 1) := by decide +kernel
theorem dX8_ofTrigger_41 : decode cX8_ofTrigger 41 = .ok (.iload_n 2, 1) := by decide +kernel
theorem dX8_ofTrigger_42 : decode cX8_ofTrigger 42 = .ok (.lookupswitch 58 #[(8, 26), (9, 38)], 26) := by decide +kernel
theorem dX8_ofTrigger_68 : decode cX8_ofTrigger 68 = .ok (.aload_n 0, 1) := by decide +kernel
theorem dX8_ofTrigger_69 : decode cX8_ofTrigger 69 = .ok (.getfield 10, 3) := by decide +kernel
theorem dX8_ofTrigger_72 : decode cX8_ofTrigger 72 = .ok (.getfield 56, 3) := by decide +kernel
theorem dX8_ofTrigger_75 : decode cX8_ofTrigger 75 = .ok (.iload_n 1, 1) := by decide +kernel
theorem dX8_ofTrigger_76 : decode cX8_ofTrigger 76 = .ok (.invokevirtual 153, 3) := by decide +kernel
theorem dX8_ofTrigger_79 : decode cX8_ofTrigger 79 = .ok (.ireturn, 1) := by decide +kernel
theorem dX8_ofTrigger_80 : decode cX8_ofTrigger 80 = .ok (.aload_n 0, 1) := by decide +kernel
theorem dX8_ofTrigger_81 : decode cX8_ofTrigger 81 = .ok (.getfield 10, 3) := by decide +kernel
theorem dX8_ofTrigger_84 : decode cX8_ofTrigger 84 = .ok (.getfield 56, 3) := by decide +kernel
theorem dX8_ofTrigger_87 : decode cX8_ofTrigger 87 = .ok (.iload_n 1, 1) := by decide +kernel
theorem dX8_ofTrigger_88 : decode cX8_ofTrigger 88 = .ok (.invokevirtual 156, 3) := by decide +kernel
theorem dX8_ofTrigger_91 : decode cX8_ofTrigger 91 = .ok (.ifCond .eq 7, 3) := by decide +kernel
theorem dX8_ofTrigger_94 : decode cX8_ofTrigger 94 = .ok (.iconst 1, 1) := by decide +kernel
theorem dX8_ofTrigger_95 : decode cX8_ofTrigger 95 = .ok (.goto 4, 3) := by decide +kernel
theorem dX8_ofTrigger_98 : decode cX8_ofTrigger 98 = .ok (.iconst 0, 1) := by decide +kernel
theorem dX8_ofTrigger_99 : decode cX8_ofTrigger 99 = .ok (.ireturn, 1) := by decide +kernel
theorem dX8_ofTrigger_100 : decode cX8_ofTrigger 100 = .ok (.bipush (-2), 2) := by decide +kernel
theorem dX8_ofTrigger_102 : decode cX8_ofTrigger 102 = .ok (.ireturn, 1) := by decide +kernel
theorem dX8_journal_0 : decode cX8_journal 0 = .ok (.iload_n 1, 1) := by decide +kernel
theorem dX8_journal_1 : decode cX8_journal 1 = .ok (.aload_n 0, 1) := by decide +kernel
theorem dX8_journal_2 : decode cX8_journal 2 = .ok (.getfield 10, 3) := by decide +kernel
theorem dX8_journal_5 : decode cX8_journal 5 = .ok (.getfield 102, 3) := by decide +kernel
theorem dX8_journal_8 : decode cX8_journal 8 = .ok (.invokevirtual 106, 3) := by decide +kernel
theorem dX8_journal_11 : decode cX8_journal 11 = .ok (.invokestatic 41, 3) := by decide +kernel
theorem dX8_journal_14 : decode cX8_journal 14 = .ok (.ifCond .ne 5, 3) := by decide +kernel
theorem dX8_journal_17 : decode cX8_journal 17 = .ok (.iconst (-1), 1) := by decide +kernel
theorem dX8_journal_18 : decode cX8_journal 18 = .ok (.ireturn, 1) := by decide +kernel
theorem dX8_journal_19 : decode cX8_journal 19 = .ok (.iload_n 2, 1) := by decide +kernel
theorem dX8_journal_20 : decode cX8_journal 20 = .ok (.bipush 6, 2) := by decide +kernel
theorem dX8_journal_22 : decode cX8_journal 22 = .ok (.invokestatic 41, 3) := by decide +kernel
theorem dX8_journal_25 : decode cX8_journal 25 = .ok (.ifCond .ne 6, 3) := by decide +kernel
theorem dX8_journal_28 : decode cX8_journal 28 = .ok (.bipush (-2), 2) := by decide +kernel
theorem dX8_journal_30 : decode cX8_journal 30 = .ok (.ireturn, 1) := by decide +kernel
theorem dX8_journal_31 : decode cX8_journal 31 = .ok (.aload_n 0, 1) := by decide +kernel
theorem dX8_journal_32 : decode cX8_journal 32 = .ok (.getfield 10, 3) := by decide +kernel
theorem dX8_journal_35 : decode cX8_journal 35 = .ok (.getfield 102, 3) := by decide +kernel
theorem dX8_journal_38 : decode cX8_journal 38 = .ok (.iload_n 1, 1) := by decide +kernel
theorem dX8_journal_39 : decode cX8_journal 39 = .ok (.iload_n 2, 1) := by decide +kernel
theorem dX8_journal_40 : decode cX8_journal 40 = .ok (.invokevirtual 160, 3) := by decide +kernel
theorem dX8_journal_43 : decode cX8_journal 43 = .ok (.ireturn, 1) := by decide +kernel
theorem dX8_count_0 : decode cX8_count 0 = .ok (.iload_n 1, 1) := by decide +kernel
theorem dX8_count_1 : decode cX8_count 1 = .ok (.tableswitch 151 0 11 #[63, 63, 63, 63, 75, 86, 97, 108, 116, 124, 135, 143], 63) := by decide +kernel
theorem dX8_count_64 : decode cX8_count 64 = .ok (.aload_n 0, 1) := by decide +kernel
theorem dX8_count_65 : decode cX8_count 65 = .ok (.getfield 10, 3) := by decide +kernel
theorem dX8_count_68 : decode cX8_count 68 = .ok (.getfield 135, 3) := by decide +kernel
theorem dX8_count_71 : decode cX8_count 71 = .ok (.iload_n 1, 1) := by decide +kernel
theorem dX8_count_72 : decode cX8_count 72 = .ok (.invokevirtual 139, 3) := by decide +kernel
theorem dX8_count_75 : decode cX8_count 75 = .ok (.ireturn, 1) := by decide +kernel
theorem dX8_count_76 : decode cX8_count 76 = .ok (.aload_n 0, 1) := by decide +kernel
theorem dX8_count_77 : decode cX8_count 77 = .ok (.getfield 10, 3) := by decide +kernel
theorem dX8_count_80 : decode cX8_count 80 = .ok (.getfield 56, 3) := by decide +kernel
theorem dX8_count_83 : decode cX8_count 83 = .ok (.invokevirtual 60, 3) := by decide +kernel
theorem dX8_count_86 : decode cX8_count 86 = .ok (.ireturn, 1) := by decide +kernel
theorem dX8_count_87 : decode cX8_count 87 = .ok (.aload_n 0, 1) := by decide +kernel
theorem dX8_count_88 : decode cX8_count 88 = .ok (.getfield 10, 3) := by decide +kernel
theorem dX8_count_91 : decode cX8_count 91 = .ok (.getfield 102, 3) := by decide +kernel
theorem dX8_count_94 : decode cX8_count 94 = .ok (.invokevirtual 106, 3) := by decide +kernel
theorem dX8_count_97 : decode cX8_count 97 = .ok (.ireturn, 1) := by decide +kernel
theorem dX8_count_98 : decode cX8_count 98 = .ok (.aload_n 0, 1) := by decide +kernel
theorem dX8_count_99 : decode cX8_count 99 = .ok (.getfield 10, 3) := by decide +kernel
theorem dX8_count_102 : decode cX8_count 102 = .ok (.getfield 135, 3) := by decide +kernel
theorem dX8_count_105 : decode cX8_count 105 = .ok (.invokevirtual 161, 3) := by decide +kernel
theorem dX8_count_108 : decode cX8_count 108 = .ok (.ireturn, 1) := by decide +kernel
theorem dX8_count_109 : decode cX8_count 109 = .ok (.aload_n 0, 1) := by decide +kernel
theorem dX8_count_110 : decode cX8_count 110 = .ok (.getfield 10, 3) := by decide +kernel
theorem dX8_count_113 : decode cX8_count 113 = .ok (.getfield 49, 3) := by decide +kernel
theorem dX8_count_116 : decode cX8_count 116 = .ok (.ireturn, 1) := by decide +kernel
theorem dX8_count_117 : decode cX8_count 117 = .ok (.aload_n 0, 1) := by decide +kernel
theorem dX8_count_118 : decode cX8_count 118 = .ok (.getfield 10, 3) := by decide +kernel
theorem dX8_count_121 : decode cX8_count 121 = .ok (.getfield 53, 3) := by decide +kernel
theorem dX8_count_124 : decode cX8_count 124 = .ok (.ireturn, 1) := by decide +kernel
theorem dX8_count_125 : decode cX8_count 125 = .ok (.aload_n 0, 1) := by decide +kernel
theorem dX8_count_126 : decode cX8_count 126 = .ok (.getfield 10, 3) := by decide +kernel
theorem dX8_count_129 : decode cX8_count 129 = .ok (.getfield 56, 3) := by decide +kernel
theorem dX8_count_132 : decode cX8_count 132 = .ok (.invokevirtual 164, 3) := by decide +kernel
theorem dX8_count_135 : decode cX8_count 135 = .ok (.ireturn, 1) := by decide +kernel
theorem dX8_count_136 : decode cX8_count 136 = .ok (.aload_n 0, 1) := by decide +kernel
theorem dX8_count_137 : decode cX8_count 137 = .ok (.getfield 26, 3) := by decide +kernel
theorem dX8_count_140 : decode cX8_count 140 = .ok (.invokevirtual 167, 3) := by decide +kernel
theorem dX8_count_143 : decode cX8_count 143 = .ok (.ireturn, 1) := by decide +kernel
theorem dX8_count_144 : decode cX8_count 144 = .ok (.aload_n 0, 1) := by decide +kernel
theorem dX8_count_145 : decode cX8_count 145 = .ok (.getfield 33, 3) := by decide +kernel
theorem dX8_count_148 : decode cX8_count 148 = .ok (.invokevirtual 170, 3) := by decide +kernel
theorem dX8_count_151 : decode cX8_count 151 = .ok (.ireturn, 1) := by decide +kernel
theorem dX8_count_152 : decode cX8_count 152 = .ok (.bipush (-2), 2) := by decide +kernel
theorem dX8_count_154 : decode cX8_count 154 = .ok (.ireturn, 1) := by decide +kernel
theorem dX8_culprits_0 : decode cX8_culprits 0 = .ok (.iload_n 1, 1) := by decide +kernel
theorem dX8_culprits_1 : decode cX8_culprits 1 = .ok (.iload_n 2, 1) := by decide +kernel
theorem dX8_culprits_2 : decode cX8_culprits 2 = .ok (.iload_n 3, 1) := by decide +kernel
theorem dX8_culprits_3 : decode cX8_culprits 3 = .ok (.iload 4, 2) := by decide +kernel
theorem dX8_culprits_5 : decode cX8_culprits 5 = .ok (.invokestatic 82, 3) := by decide +kernel
theorem dX8_culprits_8 : decode cX8_culprits 8 = .ok (.istore 5, 2) := by decide +kernel
theorem dX8_culprits_10 : decode cX8_culprits 10 = .ok (.iload 5, 2) := by decide +kernel
theorem dX8_culprits_12 : decode cX8_culprits 12 = .ok (.ifCond .eq 6, 3) := by decide +kernel
theorem dX8_culprits_15 : decode cX8_culprits 15 = .ok (.iload 5, 2) := by decide +kernel
theorem dX8_culprits_17 : decode cX8_culprits 17 = .ok (.ireturn, 1) := by decide +kernel
theorem dX8_culprits_18 : decode cX8_culprits 18 = .ok (.aload_n 0, 1) := by decide +kernel
theorem dX8_culprits_19 : decode cX8_culprits 19 = .ok (.getfield 19, 3) := by decide +kernel
theorem dX8_culprits_22 : decode cX8_culprits 22 = .ok (.aload_n 0, 1) := by decide +kernel
theorem dX8_culprits_23 : decode cX8_culprits 23 = .ok (.getfield 10, 3) := by decide +kernel
theorem dX8_culprits_26 : decode cX8_culprits 26 = .ok (.iload_n 1, 1) := by decide +kernel
theorem dX8_culprits_27 : decode cX8_culprits 27 = .ok (.iload_n 2, 1) := by decide +kernel
theorem dX8_culprits_28 : decode cX8_culprits 28 = .ok (.iload_n 3, 1) := by decide +kernel
theorem dX8_culprits_29 : decode cX8_culprits 29 = .ok (.iload 4, 2) := by decide +kernel
theorem dX8_culprits_31 : decode cX8_culprits 31 = .ok (.aload_n 0, 1) := by decide +kernel
theorem dX8_culprits_32 : decode cX8_culprits 32 = .ok (.getfield 10, 3) := by decide +kernel
theorem dX8_culprits_35 : decode cX8_culprits 35 = .ok (.getfield 49, 3) := by decide +kernel
theorem dX8_culprits_38 : decode cX8_culprits 38 = .ok (.iconst (-1), 1) := by decide +kernel
theorem dX8_culprits_39 : decode cX8_culprits 39 = .ok (.invokevirtual 85, 3) := by decide +kernel
theorem dX8_culprits_42 : decode cX8_culprits 42 = .ok (.aload_n 0, 1) := by decide +kernel
theorem dX8_culprits_43 : decode cX8_culprits 43 = .ok (.getfield 19, 3) := by decide +kernel
theorem dX8_culprits_46 : decode cX8_culprits 46 = .ok (.getfield 89, 3) := by decide +kernel
theorem dX8_culprits_49 : decode cX8_culprits 49 = .ok (.invokevirtual 93, 3) := by decide +kernel
theorem dX8_culprits_52 : decode cX8_culprits 52 = .ok (.ifCond .ne 6, 3) := by decide +kernel
theorem dX8_culprits_55 : decode cX8_culprits 55 = .ok (.bipush (-6), 2) := by decide +kernel
theorem dX8_culprits_57 : decode cX8_culprits 57 = .ok (.ireturn, 1) := by decide +kernel
theorem dX8_culprits_58 : decode cX8_culprits 58 = .ok (.iconst 0, 1) := by decide +kernel
theorem dX8_culprits_59 : decode cX8_culprits 59 = .ok (.istore 6, 2) := by decide +kernel
theorem dX8_culprits_61 : decode cX8_culprits 61 = .ok (.iconst 0, 1) := by decide +kernel
theorem dX8_culprits_62 : decode cX8_culprits 62 = .ok (.istore 7, 2) := by decide +kernel
theorem dX8_culprits_64 : decode cX8_culprits 64 = .ok (.iload 7, 2) := by decide +kernel
theorem dX8_culprits_66 : decode cX8_culprits 66 = .ok (.aload_n 0, 1) := by decide +kernel
theorem dX8_culprits_67 : decode cX8_culprits 67 = .ok (.getfield 10, 3) := by decide +kernel
theorem dX8_culprits_70 : decode cX8_culprits 70 = .ok (.getfield 56, 3) := by decide +kernel
theorem dX8_culprits_73 : decode cX8_culprits 73 = .ok (.invokevirtual 60, 3) := by decide +kernel
theorem dX8_culprits_76 : decode cX8_culprits 76 = .ok (.if_icmp .ge 56, 3) := by decide +kernel
theorem dX8_culprits_79 : decode cX8_culprits 79 = .ok (.aload_n 0, 1) := by decide +kernel
theorem dX8_culprits_80 : decode cX8_culprits 80 = .ok (.getfield 19, 3) := by decide +kernel
theorem dX8_culprits_83 : decode cX8_culprits 83 = .ok (.aload_n 0, 1) := by decide +kernel
theorem dX8_culprits_84 : decode cX8_culprits 84 = .ok (.getfield 10, 3) := by decide +kernel
theorem dX8_culprits_87 : decode cX8_culprits 87 = .ok (.iload_n 1, 1) := by decide +kernel
theorem dX8_culprits_88 : decode cX8_culprits 88 = .ok (.iload_n 2, 1) := by decide +kernel
theorem dX8_culprits_89 : decode cX8_culprits 89 = .ok (.iload_n 3, 1) := by decide +kernel
theorem dX8_culprits_90 : decode cX8_culprits 90 = .ok (.iload 4, 2) := by decide +kernel
theorem dX8_culprits_92 : decode cX8_culprits 92 = .ok (.aload_n 0, 1) := by decide +kernel
theorem dX8_culprits_93 : decode cX8_culprits 93 = .ok (.getfield 10, 3) := by decide +kernel
theorem dX8_culprits_96 : decode cX8_culprits 96 = .ok (.getfield 49, 3) := by decide +kernel
theorem dX8_culprits_99 : decode cX8_culprits 99 = .ok (.iload 7, 2) := by decide +kernel
theorem dX8_culprits_101 : decode cX8_culprits 101 = .ok (.invokevirtual 85, 3) := by decide +kernel
theorem dX8_culprits_104 : decode cX8_culprits 104 = .ok (.aload_n 0, 1) := by decide +kernel
theorem dX8_culprits_105 : decode cX8_culprits 105 = .ok (.getfield 19, 3) := by decide +kernel
theorem dX8_culprits_108 : decode cX8_culprits 108 = .ok (.getfield 89, 3) := by decide +kernel
theorem dX8_culprits_111 : decode cX8_culprits 111 = .ok (.invokevirtual 93, 3) := by decide +kernel
theorem dX8_culprits_114 : decode cX8_culprits 114 = .ok (.ifCond .ne 12, 3) := by decide +kernel
theorem dX8_culprits_117 : decode cX8_culprits 117 = .ok (.iload 6, 2) := by decide +kernel
theorem dX8_culprits_119 : decode cX8_culprits 119 = .ok (.iconst 1, 1) := by decide +kernel
theorem dX8_culprits_120 : decode cX8_culprits 120 = .ok (.iload 7, 2) := by decide +kernel
theorem dX8_culprits_122 : decode cX8_culprits 122 = .ok (.ishl, 1) := by decide +kernel
theorem dX8_culprits_123 : decode cX8_culprits 123 = .ok (.ior, 1) := by decide +kernel
theorem dX8_culprits_124 : decode cX8_culprits 124 = .ok (.istore 6, 2) := by decide +kernel
theorem dX8_culprits_126 : decode cX8_culprits 126 = .ok (.iinc 7 1, 3) := by decide +kernel
theorem dX8_culprits_129 : decode cX8_culprits 129 = .ok (.goto (-65), 3) := by decide +kernel
theorem dX8_culprits_132 : decode cX8_culprits 132 = .ok (.iload 6, 2) := by decide +kernel
theorem dX8_culprits_134 : decode cX8_culprits 134 = .ok (.ireturn, 1) := by decide +kernel
theorem dX8_undo_0 : decode cX8_undo 0 = .ok (.aload_n 0, 1) := by decide +kernel
theorem dX8_undo_1 : decode cX8_undo 1 = .ok (.getfield 33, 3) := by decide +kernel
theorem dX8_undo_4 : decode cX8_undo 4 = .ok (.aload_n 0, 1) := by decide +kernel
theorem dX8_undo_5 : decode cX8_undo 5 = .ok (.getfield 10, 3) := by decide +kernel
theorem dX8_undo_8 : decode cX8_undo 8 = .ok (.invokevirtual 188, 3) := by decide +kernel
theorem dX8_undo_11 : decode cX8_undo 11 = .ok (.ifCond .ne 6, 3) := by decide +kernel
theorem dX8_undo_14 : decode cX8_undo 14 = .ok (.bipush (-5), 2) := by decide +kernel
theorem dX8_undo_16 : decode cX8_undo 16 = .ok (.ireturn, 1) := by decide +kernel
theorem dX8_undo_17 : decode cX8_undo 17 = .ok (.aload_n 0, 1) := by decide +kernel
theorem dX8_undo_18 : decode cX8_undo 18 = .ok (.getfield 33, 3) := by decide +kernel
theorem dX8_undo_21 : decode cX8_undo 21 = .ok (.invokevirtual 170, 3) := by decide +kernel
theorem dX8_undo_24 : decode cX8_undo 24 = .ok (.ireturn, 1) := by decide +kernel
theorem dX8_save_0 : decode cX8_save 0 = .ok (.iload_n 1, 1) := by decide +kernel
theorem dX8_save_1 : decode cX8_save 1 = .ok (.iconst 2, 1) := by decide +kernel
theorem dX8_save_2 : decode cX8_save 2 = .ok (.invokestatic 41, 3) := by decide +kernel
theorem dX8_save_5 : decode cX8_save 5 = .ok (.ifCond .ne 6, 3) := by decide +kernel
theorem dX8_save_8 : decode cX8_save 8 = .ok (.bipush (-2), 2) := by decide +kernel
theorem dX8_save_10 : decode cX8_save 10 = .ok (.ireturn, 1) := by decide +kernel
theorem dX8_save_11 : decode cX8_save 11 = .ok (.aload_n 0, 1) := by decide +kernel
theorem dX8_save_12 : decode cX8_save 12 = .ok (.getfield 37, 3) := by decide +kernel
theorem dX8_save_15 : decode cX8_save 15 = .ok (.iload_n 1, 1) := by decide +kernel
theorem dX8_save_16 : decode cX8_save 16 = .ok (.aaload, 1) := by decide +kernel
theorem dX8_save_17 : decode cX8_save 17 = .ok (.astore_n 2, 1) := by decide +kernel
theorem dX8_save_18 : decode cX8_save 18 = .ok (.aload_n 2, 1) := by decide +kernel
theorem dX8_save_19 : decode cX8_save 19 = .ok (.ifnonnull 18, 3) := by decide +kernel
theorem dX8_save_22 : decode cX8_save 22 = .ok (.new 7, 3) := by decide +kernel
theorem dX8_save_25 : decode cX8_save 25 = .ok (.dup, 1) := by decide +kernel
theorem dX8_save_26 : decode cX8_save 26 = .ok (.invokespecial 9, 3) := by decide +kernel
theorem dX8_save_29 : decode cX8_save 29 = .ok (.astore_n 2, 1) := by decide +kernel
theorem dX8_save_30 : decode cX8_save 30 = .ok (.aload_n 0, 1) := by decide +kernel
theorem dX8_save_31 : decode cX8_save 31 = .ok (.getfield 37, 3) := by decide +kernel
theorem dX8_save_34 : decode cX8_save 34 = .ok (.iload_n 1, 1) := by decide +kernel
theorem dX8_save_35 : decode cX8_save 35 = .ok (.aload_n 2, 1) := by decide +kernel
theorem dX8_save_36 : decode cX8_save 36 = .ok (.aastore, 1) := by decide +kernel
theorem dX8_save_37 : decode cX8_save 37 = .ok (.aload_n 2, 1) := by decide +kernel
theorem dX8_save_38 : decode cX8_save 38 = .ok (.aload_n 0, 1) := by decide +kernel
theorem dX8_save_39 : decode cX8_save 39 = .ok (.getfield 10, 3) := by decide +kernel
theorem dX8_save_42 : decode cX8_save 42 = .ok (.invokevirtual 192, 3) := by decide +kernel
theorem dX8_save_45 : decode cX8_save 45 = .ok (.aload_n 0, 1) := by decide +kernel
theorem dX8_save_46 : decode cX8_save 46 = .ok (.getfield 10, 3) := by decide +kernel
theorem dX8_save_49 : decode cX8_save 49 = .ok (.getfield 135, 3) := by decide +kernel
theorem dX8_save_52 : decode cX8_save 52 = .ok (.invokevirtual 195, 3) := by decide +kernel
theorem dX8_save_55 : decode cX8_save 55 = .ok (.ireturn, 1) := by decide +kernel
theorem dX8_restore_0 : decode cX8_restore 0 = .ok (.iload_n 1, 1) := by decide +kernel
theorem dX8_restore_1 : decode cX8_restore 1 = .ok (.iconst 2, 1) := by decide +kernel
theorem dX8_restore_2 : decode cX8_restore 2 = .ok (.invokestatic 41, 3) := by decide +kernel
theorem dX8_restore_5 : decode cX8_restore 5 = .ok (.ifCond .ne 6, 3) := by decide +kernel
theorem dX8_restore_8 : decode cX8_restore 8 = .ok (.bipush (-2), 2) := by decide +kernel
theorem dX8_restore_10 : decode cX8_restore 10 = .ok (.ireturn, 1) := by decide +kernel
theorem dX8_restore_11 : decode cX8_restore 11 = .ok (.aload_n 0, 1) := by decide +kernel
theorem dX8_restore_12 : decode cX8_restore 12 = .ok (.getfield 37, 3) := by decide +kernel
theorem dX8_restore_15 : decode cX8_restore 15 = .ok (.iload_n 1, 1) := by decide +kernel
theorem dX8_restore_16 : decode cX8_restore 16 = .ok (.aaload, 1) := by decide +kernel
theorem dX8_restore_17 : decode cX8_restore 17 = .ok (.astore_n 2, 1) := by decide +kernel
theorem dX8_restore_18 : decode cX8_restore 18 = .ok (.aload_n 2, 1) := by decide +kernel
theorem dX8_restore_19 : decode cX8_restore 19 = .ok (.ifnonnull 6, 3) := by decide +kernel
theorem dX8_restore_22 : decode cX8_restore 22 = .ok (.bipush (-5), 2) := by decide +kernel
theorem dX8_restore_24 : decode cX8_restore 24 = .ok (.ireturn, 1) := by decide +kernel
theorem dX8_restore_25 : decode cX8_restore 25 = .ok (.aload_n 0, 1) := by decide +kernel
theorem dX8_restore_26 : decode cX8_restore 26 = .ok (.getfield 33, 3) := by decide +kernel
theorem dX8_restore_29 : decode cX8_restore 29 = .ok (.aload_n 0, 1) := by decide +kernel
theorem dX8_restore_30 : decode cX8_restore 30 = .ok (.getfield 10, 3) := by decide +kernel
theorem dX8_restore_33 : decode cX8_restore 33 = .ok (.invokevirtual 45, 3) := by decide +kernel
theorem dX8_restore_36 : decode cX8_restore 36 = .ok (.aload_n 0, 1) := by decide +kernel
theorem dX8_restore_37 : decode cX8_restore 37 = .ok (.getfield 10, 3) := by decide +kernel
theorem dX8_restore_40 : decode cX8_restore 40 = .ok (.aload_n 2, 1) := by decide +kernel
theorem dX8_restore_41 : decode cX8_restore 41 = .ok (.invokevirtual 192, 3) := by decide +kernel
theorem dX8_restore_44 : decode cX8_restore 44 = .ok (.aload_n 0, 1) := by decide +kernel
theorem dX8_restore_45 : decode cX8_restore 45 = .ok (.getfield 10, 3) := by decide +kernel
theorem dX8_restore_48 : decode cX8_restore 48 = .ok (.getfield 135, 3) := by decide +kernel
theorem dX8_restore_51 : decode cX8_restore 51 = .ok (.invokevirtual 195, 3) := by decide +kernel
theorem dX8_restore_54 : decode cX8_restore 54 = .ok (.ireturn, 1) := by decide +kernel
theorem dX8_isWithin_0 : decode cX8_isWithin 0 = .ok (.iload_n 0, 1) := by decide +kernel
theorem dX8_isWithin_1 : decode cX8_isWithin 1 = .ok (.ifCond .lt 12, 3) := by decide +kernel
theorem dX8_isWithin_4 : decode cX8_isWithin 4 = .ok (.iload_n 0, 1) := by decide +kernel
theorem dX8_isWithin_5 : decode cX8_isWithin 5 = .ok (.iload_n 1, 1) := by decide +kernel
theorem dX8_isWithin_6 : decode cX8_isWithin 6 = .ok (.if_icmp .ge 7, 3) := by decide +kernel
theorem dX8_isWithin_9 : decode cX8_isWithin 9 = .ok (.iconst 1, 1) := by decide +kernel
theorem dX8_isWithin_10 : decode cX8_isWithin 10 = .ok (.goto 4, 3) := by decide +kernel
theorem dX8_isWithin_13 : decode cX8_isWithin 13 = .ok (.iconst 0, 1) := by decide +kernel
theorem dX8_isWithin_14 : decode cX8_isWithin 14 = .ok (.ireturn, 1) := by decide +kernel
theorem dX8_errorOf_0 : decode cX8_errorOf 0 = .ok (.iload_n 1, 1) := by decide +kernel
theorem dX8_errorOf_1 : decode cX8_errorOf 1 = .ok (.iconst 4, 1) := by decide +kernel
theorem dX8_errorOf_2 : decode cX8_errorOf 2 = .ok (.invokestatic 41, 3) := by decide +kernel
theorem dX8_errorOf_5 : decode cX8_errorOf 5 = .ok (.ifCond .ne 5, 3) := by decide +kernel
theorem dX8_errorOf_8 : decode cX8_errorOf 8 = .ok (.iconst (-1), 1) := by decide +kernel
theorem dX8_errorOf_9 : decode cX8_errorOf 9 = .ok (.ireturn, 1) := by decide +kernel
theorem dX8_errorOf_10 : decode cX8_errorOf 10 = .ok (.iload_n 0, 1) := by decide +kernel
theorem dX8_errorOf_11 : decode cX8_errorOf 11 = .ok (.iconst 3, 1) := by decide +kernel
theorem dX8_errorOf_12 : decode cX8_errorOf 12 = .ok (.invokestatic 41, 3) := by decide +kernel
theorem dX8_errorOf_15 : decode cX8_errorOf 15 = .ok (.ifCond .eq 22, 3) := by decide +kernel
theorem dX8_errorOf_18 : decode cX8_errorOf 18 = .ok (.iload_n 2, 1) := by decide +kernel
theorem dX8_errorOf_19 : decode cX8_errorOf 19 = .ok (.bipush 100, 2) := by decide +kernel
theorem dX8_errorOf_21 : decode cX8_errorOf 21 = .ok (.invokestatic 41, 3) := by decide +kernel
theorem dX8_errorOf_24 : decode cX8_errorOf 24 = .ok (.ifCond .eq 13, 3) := by decide +kernel
theorem dX8_errorOf_27 : decode cX8_errorOf 27 = .ok (.iload_n 3, 1) := by decide +kernel
theorem dX8_errorOf_28 : decode cX8_errorOf 28 = .ok (.sipush 1000, 3) := by decide +kernel
theorem dX8_errorOf_31 : decode cX8_errorOf 31 = .ok (.invokestatic 41, 3) := by decide +kernel
theorem dX8_errorOf_34 : decode cX8_errorOf 34 = .ok (.ifCond .ne 6, 3) := by decide +kernel
theorem dX8_errorOf_37 : decode cX8_errorOf 37 = .ok (.bipush (-2), 2) := by decide +kernel
theorem dX8_errorOf_39 : decode cX8_errorOf 39 = .ok (.ireturn, 1) := by decide +kernel
theorem dX8_errorOf_40 : decode cX8_errorOf 40 = .ok (.iconst 0, 1) := by decide +kernel
theorem dX8_errorOf_41 : decode cX8_errorOf 41 = .ok (.ireturn, 1) := by decide +kernel
theorem dX8_takeOver_0 : decode cX8_takeOver 0 = .ok (.aload_n 0, 1) := by decide +kernel
theorem dX8_takeOver_1 : decode cX8_takeOver 1 = .ok (.getfield 10, 3) := by decide +kernel
theorem dX8_takeOver_4 : decode cX8_takeOver 4 = .ok (.getfield 135, 3) := by decide +kernel
theorem dX8_takeOver_7 : decode cX8_takeOver 7 = .ok (.aload_n 0, 1) := by decide +kernel
theorem dX8_takeOver_8 : decode cX8_takeOver 8 = .ok (.getfield 19, 3) := by decide +kernel
theorem dX8_takeOver_11 : decode cX8_takeOver 11 = .ok (.getfield 198, 3) := by decide +kernel
theorem dX8_takeOver_14 : decode cX8_takeOver 14 = .ok (.invokevirtual 199, 3) := by decide +kernel
theorem dX8_takeOver_17 : decode cX8_takeOver 17 = .ok (.aload_n 0, 1) := by decide +kernel
theorem dX8_takeOver_18 : decode cX8_takeOver 18 = .ok (.getfield 10, 3) := by decide +kernel
theorem dX8_takeOver_21 : decode cX8_takeOver 21 = .ok (.getfield 102, 3) := by decide +kernel
theorem dX8_takeOver_24 : decode cX8_takeOver 24 = .ok (.aload_n 0, 1) := by decide +kernel
theorem dX8_takeOver_25 : decode cX8_takeOver 25 = .ok (.getfield 19, 3) := by decide +kernel
theorem dX8_takeOver_28 : decode cX8_takeOver 28 = .ok (.getfield 112, 3) := by decide +kernel
theorem dX8_takeOver_31 : decode cX8_takeOver 31 = .ok (.invokevirtual 202, 3) := by decide +kernel
theorem dX8_takeOver_34 : decode cX8_takeOver 34 = .ok (.return_, 1) := by decide +kernel
theorem dL_cell_0 : decode cL_cell 0 = .ok (.iload_n 1, 1) := by decide +kernel
theorem dL_cell_1 : decode cL_cell 1 = .ok (.aload_n 0, 1) := by decide +kernel
theorem dL_cell_2 : decode cL_cell 2 = .ok (.arraylength, 1) := by decide +kernel
theorem dL_cell_3 : decode cL_cell 3 = .ok (.if_icmp .ge 9, 3) := by decide +kernel
theorem dL_cell_6 : decode cL_cell 6 = .ok (.aload_n 0, 1) := by decide +kernel
theorem dL_cell_7 : decode cL_cell 7 = .ok (.iload_n 1, 1) := by decide +kernel
theorem dL_cell_8 : decode cL_cell 8 = .ok (.iaload, 1) := by decide +kernel
theorem dL_cell_9 : decode cL_cell 9 = .ok (.goto 15, 3) := by decide +kernel
theorem dL_cell_12 : decode cL_cell 12 = .ok (.sipush 7919, 3) := by decide +kernel
theorem dL_cell_15 : decode cL_cell 15 = .ok (.iload_n 1, 1) := by decide +kernel
theorem dL_cell_16 : decode cL_cell 16 = .ok (.iconst 3, 1) := by decide +kernel
theorem dL_cell_17 : decode cL_cell 17 = .ok (.iadd, 1) := by decide +kernel
theorem dL_cell_18 : decode cL_cell 18 = .ok (.imul, 1) := by decide +kernel
theorem dL_cell_19 : decode cL_cell 19 = .ok (.iload_n 1, 1) := by decide +kernel
theorem dL_cell_20 : decode cL_cell 20 = .ok (.bipush 11, 2) := by decide +kernel
theorem dL_cell_22 : decode cL_cell 22 = .ok (.iadd, 1) := by decide +kernel
theorem dL_cell_23 : decode cL_cell 23 = .ok (.imul, 1) := by decide +kernel
theorem dL_cell_24 : decode cL_cell 24 = .ok (.ireturn, 1) := by decide +kernel
theorem dL_low_0 : decode cL_low 0 = .ok (.iload_n 0, 1) := by decide +kernel
theorem dL_low_1 : decode cL_low 1 = .ok (.ldc 7, 2) := by decide +kernel
theorem dL_low_3 : decode cL_low 3 = .ok (.iand, 1) := by decide +kernel
theorem dL_low_4 : decode cL_low 4 = .ok (.iload_n 1, 1) := by decide +kernel
theorem dL_low_5 : decode cL_low 5 = .ok (.irem, 1) := by decide +kernel
theorem dL_low_6 : decode cL_low 6 = .ok (.ireturn, 1) := by decide +kernel
theorem dL_digest_0 : decode cL_digest 0 = .ok (.ldc2_w 8, 3) := by decide +kernel
theorem dL_digest_3 : decode cL_digest 3 = .ok (.lstore_n 1, 1) := by decide +kernel
theorem dL_digest_4 : decode cL_digest 4 = .ok (.iconst 0, 1) := by decide +kernel
theorem dL_digest_5 : decode cL_digest 5 = .ok (.istore_n 3, 1) := by decide +kernel
theorem dL_digest_6 : decode cL_digest 6 = .ok (.iload_n 3, 1) := by decide +kernel
theorem dL_digest_7 : decode cL_digest 7 = .ok (.bipush 10, 2) := by decide +kernel
theorem dL_digest_9 : decode cL_digest 9 = .ok (.if_icmp .ge 22, 3) := by decide +kernel
theorem dL_digest_12 : decode cL_digest 12 = .ok (.ldc2_w 10, 3) := by decide +kernel
theorem dL_digest_15 : decode cL_digest 15 = .ok (.lload_n 1, 1) := by decide +kernel
theorem dL_digest_16 : decode cL_digest 16 = .ok (.lmul, 1) := by decide +kernel
theorem dL_digest_17 : decode cL_digest 17 = .ok (.aload_n 0, 1) := by decide +kernel
theorem dL_digest_18 : decode cL_digest 18 = .ok (.iload_n 3, 1) := by decide +kernel
theorem dL_digest_19 : decode cL_digest 19 = .ok (.invokevirtual 12, 3) := by decide +kernel
theorem dL_digest_22 : decode cL_digest 22 = .ok (.i2l, 1) := by decide +kernel
theorem dL_digest_23 : decode cL_digest 23 = .ok (.ladd, 1) := by decide +kernel
theorem dL_digest_24 : decode cL_digest 24 = .ok (.lstore_n 1, 1) := by decide +kernel
theorem dL_digest_25 : decode cL_digest 25 = .ok (.iinc 3 1, 3) := by decide +kernel
theorem dL_digest_28 : decode cL_digest 28 = .ok (.goto (-22), 3) := by decide +kernel
theorem dL_digest_31 : decode cL_digest 31 = .ok (.iconst 0, 1) := by decide +kernel
theorem dL_digest_32 : decode cL_digest 32 = .ok (.istore_n 3, 1) := by decide +kernel
theorem dL_digest_33 : decode cL_digest 33 = .ok (.iload_n 3, 1) := by decide +kernel
theorem dL_digest_34 : decode cL_digest 34 = .ok (.iconst 4, 1) := by decide +kernel
theorem dL_digest_35 : decode cL_digest 35 = .ok (.if_icmp .ge 58, 3) := by decide +kernel
theorem dL_digest_38 : decode cL_digest 38 = .ok (.iconst 0, 1) := by decide +kernel
theorem dL_digest_39 : decode cL_digest 39 = .ok (.istore 4, 2) := by decide +kernel
theorem dL_digest_41 : decode cL_digest 41 = .ok (.iload 4, 2) := by decide +kernel
theorem dL_digest_43 : decode cL_digest 43 = .ok (.aload_n 0, 1) := by decide +kernel
theorem dL_digest_44 : decode cL_digest 44 = .ok (.iload_n 3, 1) := by decide +kernel
theorem dL_digest_45 : decode cL_digest 45 = .ok (.invokevirtual 12, 3) := by decide +kernel
theorem dL_digest_48 : decode cL_digest 48 = .ok (.if_icmp .ge 39, 3) := by decide +kernel
theorem dL_digest_51 : decode cL_digest 51 = .ok (.ldc2_w 10, 3) := by decide +kernel
theorem dL_digest_54 : decode cL_digest 54 = .ok (.ldc2_w 10, 3) := by decide +kernel
theorem dL_digest_57 : decode cL_digest 57 = .ok (.lload_n 1, 1) := by decide +kernel
theorem dL_digest_58 : decode cL_digest 58 = .ok (.lmul, 1) := by decide +kernel
theorem dL_digest_59 : decode cL_digest 59 = .ok (.aload_n 0, 1) := by decide +kernel
theorem dL_digest_60 : decode cL_digest 60 = .ok (.iload_n 3, 1) := by decide +kernel
theorem dL_digest_61 : decode cL_digest 61 = .ok (.iload 4, 2) := by decide +kernel
theorem dL_digest_63 : decode cL_digest 63 = .ok (.iconst 0, 1) := by decide +kernel
theorem dL_digest_64 : decode cL_digest 64 = .ok (.invokevirtual 18, 3) := by decide +kernel
theorem dL_digest_67 : decode cL_digest 67 = .ok (.i2l, 1) := by decide +kernel
theorem dL_digest_68 : decode cL_digest 68 = .ok (.ladd, 1) := by decide +kernel
theorem dL_digest_69 : decode cL_digest 69 = .ok (.lmul, 1) := by decide +kernel
theorem dL_digest_70 : decode cL_digest 70 = .ok (.aload_n 0, 1) := by decide +kernel
theorem dL_digest_71 : decode cL_digest 71 = .ok (.iload_n 3, 1) := by decide +kernel
theorem dL_digest_72 : decode cL_digest 72 = .ok (.iload 4, 2) := by decide +kernel
theorem dL_digest_74 : decode cL_digest 74 = .ok (.iconst 1, 1) := by decide +kernel
theorem dL_digest_75 : decode cL_digest 75 = .ok (.invokevirtual 18, 3) := by decide +kernel
theorem dL_digest_78 : decode cL_digest 78 = .ok (.i2l, 1) := by decide +kernel
theorem dL_digest_79 : decode cL_digest 79 = .ok (.ladd, 1) := by decide +kernel
theorem dL_digest_80 : decode cL_digest 80 = .ok (.lstore_n 1, 1) := by decide +kernel
theorem dL_digest_81 : decode cL_digest 81 = .ok (.iinc 4 1, 3) := by decide +kernel
theorem dL_digest_84 : decode cL_digest 84 = .ok (.goto (-43), 3) := by decide +kernel
theorem dL_digest_87 : decode cL_digest 87 = .ok (.iinc 3 1, 3) := by decide +kernel
theorem dL_digest_90 : decode cL_digest 90 = .ok (.goto (-57), 3) := by decide +kernel
theorem dL_digest_93 : decode cL_digest 93 = .ok (.iconst 0, 1) := by decide +kernel
theorem dL_digest_94 : decode cL_digest 94 = .ok (.istore_n 3, 1) := by decide +kernel
theorem dL_digest_95 : decode cL_digest 95 = .ok (.iload_n 3, 1) := by decide +kernel
theorem dL_digest_96 : decode cL_digest 96 = .ok (.aload_n 0, 1) := by decide +kernel
theorem dL_digest_97 : decode cL_digest 97 = .ok (.iconst 4, 1) := by decide +kernel
theorem dL_digest_98 : decode cL_digest 98 = .ok (.invokevirtual 12, 3) := by decide +kernel
theorem dL_digest_101 : decode cL_digest 101 = .ok (.if_icmp .ge 40, 3) := by decide +kernel
theorem dL_digest_104 : decode cL_digest 104 = .ok (.iconst 0, 1) := by decide +kernel
theorem dL_digest_105 : decode cL_digest 105 = .ok (.istore 4, 2) := by decide +kernel
theorem dL_digest_107 : decode cL_digest 107 = .ok (.iload 4, 2) := by decide +kernel
theorem dL_digest_109 : decode cL_digest 109 = .ok (.bipush 10, 2) := by decide +kernel
theorem dL_digest_111 : decode cL_digest 111 = .ok (.if_icmp .ge 24, 3) := by decide +kernel
theorem dL_digest_114 : decode cL_digest 114 = .ok (.ldc2_w 10, 3) := by decide +kernel
theorem dL_digest_117 : decode cL_digest 117 = .ok (.lload_n 1, 1) := by decide +kernel
theorem dL_digest_118 : decode cL_digest 118 = .ok (.lmul, 1) := by decide +kernel
theorem dL_digest_119 : decode cL_digest 119 = .ok (.aload_n 0, 1) := by decide +kernel
theorem dL_digest_120 : decode cL_digest 120 = .ok (.iload_n 3, 1) := by decide +kernel
theorem dL_digest_121 : decode cL_digest 121 = .ok (.iload 4, 2) := by decide +kernel
theorem dL_digest_123 : decode cL_digest 123 = .ok (.invokevirtual 22, 3) := by decide +kernel
theorem dL_digest_126 : decode cL_digest 126 = .ok (.i2l, 1) := by decide +kernel
theorem dL_digest_127 : decode cL_digest 127 = .ok (.ladd, 1) := by decide +kernel
theorem dL_digest_128 : decode cL_digest 128 = .ok (.lstore_n 1, 1) := by decide +kernel
theorem dL_digest_129 : decode cL_digest 129 = .ok (.iinc 4 1, 3) := by decide +kernel
theorem dL_digest_132 : decode cL_digest 132 = .ok (.goto (-25), 3) := by decide +kernel
theorem dL_digest_135 : decode cL_digest 135 = .ok (.iinc 3 1, 3) := by decide +kernel
theorem dL_digest_138 : decode cL_digest 138 = .ok (.goto (-43), 3) := by decide +kernel
theorem dL_digest_141 : decode cL_digest 141 = .ok (.iconst 0, 1) := by decide +kernel
theorem dL_digest_142 : decode cL_digest 142 = .ok (.istore_n 3, 1) := by decide +kernel
theorem dL_digest_143 : decode cL_digest 143 = .ok (.iload_n 3, 1) := by decide +kernel
theorem dL_digest_144 : decode cL_digest 144 = .ok (.aload_n 0, 1) := by decide +kernel
theorem dL_digest_145 : decode cL_digest 145 = .ok (.iconst 5, 1) := by decide +kernel
theorem dL_digest_146 : decode cL_digest 146 = .ok (.invokevirtual 12, 3) := by decide +kernel
theorem dL_digest_149 : decode cL_digest 149 = .ok (.if_icmp .ge 40, 3) := by decide +kernel
theorem dL_digest_152 : decode cL_digest 152 = .ok (.iconst 0, 1) := by decide +kernel
theorem dL_digest_153 : decode cL_digest 153 = .ok (.istore 4, 2) := by decide +kernel
theorem dL_digest_155 : decode cL_digest 155 = .ok (.iload 4, 2) := by decide +kernel
theorem dL_digest_157 : decode cL_digest 157 = .ok (.bipush 6, 2) := by decide +kernel
theorem dL_digest_159 : decode cL_digest 159 = .ok (.if_icmp .ge 24, 3) := by decide +kernel
theorem dL_digest_162 : decode cL_digest 162 = .ok (.ldc2_w 10, 3) := by decide +kernel
theorem dL_digest_165 : decode cL_digest 165 = .ok (.lload_n 1, 1) := by decide +kernel
theorem dL_digest_166 : decode cL_digest 166 = .ok (.lmul, 1) := by decide +kernel
theorem dL_digest_167 : decode cL_digest 167 = .ok (.aload_n 0, 1) := by decide +kernel
theorem dL_digest_168 : decode cL_digest 168 = .ok (.iload_n 3, 1) := by decide +kernel
theorem dL_digest_169 : decode cL_digest 169 = .ok (.iload 4, 2) := by decide +kernel
theorem dL_digest_171 : decode cL_digest 171 = .ok (.invokevirtual 26, 3) := by decide +kernel
theorem dL_digest_174 : decode cL_digest 174 = .ok (.i2l, 1) := by decide +kernel
theorem dL_digest_175 : decode cL_digest 175 = .ok (.ladd, 1) := by decide +kernel
theorem dL_digest_176 : decode cL_digest 176 = .ok (.lstore_n 1, 1) := by decide +kernel
theorem dL_digest_177 : decode cL_digest 177 = .ok (.iinc 4 1, 3) := by decide +kernel
theorem dL_digest_180 : decode cL_digest 180 = .ok (.goto (-25), 3) := by decide +kernel
theorem dL_digest_183 : decode cL_digest 183 = .ok (.iinc 3 1, 3) := by decide +kernel
theorem dL_digest_186 : decode cL_digest 186 = .ok (.goto (-43), 3) := by decide +kernel
theorem dL_digest_189 : decode cL_digest 189 = .ok (.lload_n 1, 1) := by decide +kernel
theorem dL_digest_190 : decode cL_digest 190 = .ok (.lreturn, 1) := by decide +kernel
theorem dL_act_0 : decode cL_act 0 = .ok (.iload_n 1, 1) := by decide +kernel
theorem dL_act_1 : decode cL_act 1 = .ok (.iconst 4, 1) := by decide +kernel
theorem dL_act_2 : decode cL_act 2 = .ok (.ishr, 1) := by decide +kernel
theorem dL_act_3 : decode cL_act 3 = .ok (.bipush 13, 2) := by decide +kernel
theorem dL_act_5 : decode cL_act 5 = .ok (.invokestatic 29, 3) := by decide +kernel
theorem dL_act_8 : decode cL_act 8 = .ok (.istore_n 3, 1) := by decide +kernel
theorem dL_act_9 : decode cL_act 9 = .ok (.iload_n 1, 1) := by decide +kernel
theorem dL_act_10 : decode cL_act 10 = .ok (.bipush 15, 2) := by decide +kernel
theorem dL_act_12 : decode cL_act 12 = .ok (.iand, 1) := by decide +kernel
theorem dL_act_13 : decode cL_act 13 = .ok (.tableswitch 177 0 6 #[43, 59, 59, 114, 114, 163, 169], 43) := by decide +kernel
theorem dL_act_56 : decode cL_act 56 = .ok (.aload_n 0, 1) := by decide +kernel
theorem dL_act_57 : decode cL_act 57 = .ok (.iload_n 2, 1) := by decide +kernel
theorem dL_act_58 : decode cL_act 58 = .ok (.iconst 1, 1) := by decide +kernel
theorem dL_act_59 : decode cL_act 59 = .ok (.iand, 1) := by decide +kernel
theorem dL_act_60 : decode cL_act 60 = .ok (.iload_n 2, 1) := by decide +kernel
theorem dL_act_61 : decode cL_act 61 = .ok (.iconst 1, 1) := by decide +kernel
theorem dL_act_62 : decode cL_act 62 = .ok (.ishr, 1) := by decide +kernel
theorem dL_act_63 : decode cL_act 63 = .ok (.bipush 10, 2) := by decide +kernel
theorem dL_act_65 : decode cL_act 65 = .ok (.invokestatic 29, 3) := by decide +kernel
theorem dL_act_68 : decode cL_act 68 = .ok (.invokevirtual 34, 3) := by decide +kernel
theorem dL_act_71 : decode cL_act 71 = .ok (.ireturn, 1) := by decide +kernel
theorem dL_act_72 : decode cL_act 72 = .ok (.aload_n 0, 1) := by decide +kernel
theorem dL_act_73 : decode cL_act 73 = .ok (.iload_n 2, 1) := by decide +kernel
theorem dL_act_74 : decode cL_act 74 = .ok (.iconst 5, 1) := by decide +kernel
theorem dL_act_75 : decode cL_act 75 = .ok (.invokestatic 29, 3) := by decide +kernel
theorem dL_act_78 : decode cL_act 78 = .ok (.iload_n 2, 1) := by decide +kernel
theorem dL_act_79 : decode cL_act 79 = .ok (.iconst 3, 1) := by decide +kernel
theorem dL_act_80 : decode cL_act 80 = .ok (.ishr, 1) := by decide +kernel
theorem dL_act_81 : decode cL_act 81 = .ok (.iconst 3, 1) := by decide +kernel
theorem dL_act_82 : decode cL_act 82 = .ok (.invokestatic 29, 3) := by decide +kernel
theorem dL_act_85 : decode cL_act 85 = .ok (.iload_n 2, 1) := by decide +kernel
theorem dL_act_86 : decode cL_act 86 = .ok (.iconst 5, 1) := by decide +kernel
theorem dL_act_87 : decode cL_act 87 = .ok (.ishr, 1) := by decide +kernel
theorem dL_act_88 : decode cL_act 88 = .ok (.iconst 3, 1) := by decide +kernel
theorem dL_act_89 : decode cL_act 89 = .ok (.invokestatic 29, 3) := by decide +kernel
theorem dL_act_92 : decode cL_act 92 = .ok (.iload_n 2, 1) := by decide +kernel
theorem dL_act_93 : decode cL_act 93 = .ok (.bipush 7, 2) := by decide +kernel
theorem dL_act_95 : decode cL_act 95 = .ok (.ishr, 1) := by decide +kernel
theorem dL_act_96 : decode cL_act 96 = .ok (.iconst 3, 1) := by decide +kernel
theorem dL_act_97 : decode cL_act 97 = .ok (.iand, 1) := by decide +kernel
theorem dL_act_98 : decode cL_act 98 = .ok (.ifCond .ne 16, 3) := by decide +kernel
theorem dL_act_101 : decode cL_act 101 = .ok (.iload_n 2, 1) := by decide +kernel
theorem dL_act_102 : decode cL_act 102 = .ok (.bipush 9, 2) := by decide +kernel
theorem dL_act_104 : decode cL_act 104 = .ok (.ishr, 1) := by decide +kernel
theorem dL_act_105 : decode cL_act 105 = .ok (.sipush 1001, 3) := by decide +kernel
theorem dL_act_108 : decode cL_act 108 = .ok (.invokestatic 29, 3) := by decide +kernel
theorem dL_act_111 : decode cL_act 111 = .ok (.goto 12, 3) := by decide +kernel
theorem dL_act_114 : decode cL_act 114 = .ok (.iload_n 2, 1) := by decide +kernel
theorem dL_act_115 : decode cL_act 115 = .ok (.bipush 9, 2) := by decide +kernel
theorem dL_act_117 : decode cL_act 117 = .ok (.ishr, 1) := by decide +kernel
theorem dL_act_118 : decode cL_act 118 = .ok (.bipush 20, 2) := by decide +kernel
theorem dL_act_120 : decode cL_act 120 = .ok (.invokestatic 29, 3) := by decide +kernel
theorem dL_act_123 : decode cL_act 123 = .ok (.invokevirtual 37, 3) := by decide +kernel
theorem dL_act_126 : decode cL_act 126 = .ok (.ireturn, 1) := by decide +kernel
theorem dL_act_127 : decode cL_act 127 = .ok (.aload_n 0, 1) := by decide +kernel
theorem dL_act_128 : decode cL_act 128 = .ok (.iload_n 3, 1) := by decide +kernel
theorem dL_act_129 : decode cL_act 129 = .ok (.iload_n 2, 1) := by decide +kernel
theorem dL_act_130 : decode cL_act 130 = .ok (.iconst 4, 1) := by decide +kernel
theorem dL_act_131 : decode cL_act 131 = .ok (.invokestatic 29, 3) := by decide +kernel
theorem dL_act_134 : decode cL_act 134 = .ok (.iload_n 2, 1) := by decide +kernel
theorem dL_act_135 : decode cL_act 135 = .ok (.iconst 2, 1) := by decide +kernel
theorem dL_act_136 : decode cL_act 136 = .ok (.ishr, 1) := by decide +kernel
theorem dL_act_137 : decode cL_act 137 = .ok (.iconst 4, 1) := by decide +kernel
theorem dL_act_138 : decode cL_act 138 = .ok (.invokestatic 29, 3) := by decide +kernel
theorem dL_act_141 : decode cL_act 141 = .ok (.iload_n 2, 1) := by decide +kernel
theorem dL_act_142 : decode cL_act 142 = .ok (.iconst 4, 1) := by decide +kernel
theorem dL_act_143 : decode cL_act 143 = .ok (.ishr, 1) := by decide +kernel
theorem dL_act_144 : decode cL_act 144 = .ok (.iconst 3, 1) := by decide +kernel
theorem dL_act_145 : decode cL_act 145 = .ok (.iand, 1) := by decide +kernel
theorem dL_act_146 : decode cL_act 146 = .ok (.ifCond .ne 15, 3) := by decide +kernel
theorem dL_act_149 : decode cL_act 149 = .ok (.iload_n 2, 1) := by decide +kernel
theorem dL_act_150 : decode cL_act 150 = .ok (.bipush 6, 2) := by decide +kernel
theorem dL_act_152 : decode cL_act 152 = .ok (.ishr, 1) := by decide +kernel
theorem dL_act_153 : decode cL_act 153 = .ok (.bipush 101, 2) := by decide +kernel
theorem dL_act_155 : decode cL_act 155 = .ok (.invokestatic 29, 3) := by decide +kernel
theorem dL_act_158 : decode cL_act 158 = .ok (.goto 4, 3) := by decide +kernel
theorem dL_act_161 : decode cL_act 161 = .ok (.iconst 0, 1) := by decide +kernel
theorem dL_act_162 : decode cL_act 162 = .ok (.iload_n 2, 1) := by decide +kernel
theorem dL_act_163 : decode cL_act 163 = .ok (.bipush 13, 2) := by decide +kernel
theorem dL_act_165 : decode cL_act 165 = .ok (.ishr, 1) := by decide +kernel
theorem dL_act_166 : decode cL_act 166 = .ok (.sipush 200, 3) := by decide +kernel
theorem dL_act_169 : decode cL_act 169 = .ok (.invokestatic 29, 3) := by decide +kernel
theorem dL_act_172 : decode cL_act 172 = .ok (.invokevirtual 41, 3) := by decide +kernel
theorem dL_act_175 : decode cL_act 175 = .ok (.ireturn, 1) := by decide +kernel
theorem dL_act_176 : decode cL_act 176 = .ok (.aload_n 0, 1) := by decide +kernel
theorem dL_act_177 : decode cL_act 177 = .ok (.iload_n 3, 1) := by decide +kernel
theorem dL_act_178 : decode cL_act 178 = .ok (.invokevirtual 45, 3) := by decide +kernel
theorem dL_act_181 : decode cL_act 181 = .ok (.ireturn, 1) := by decide +kernel
theorem dL_act_182 : decode cL_act 182 = .ok (.aload_n 0, 1) := by decide +kernel
theorem dL_act_183 : decode cL_act 183 = .ok (.iload_n 2, 1) := by decide +kernel
theorem dL_act_184 : decode cL_act 184 = .ok (.iconst 1, 1) := by decide +kernel
theorem dL_act_185 : decode cL_act 185 = .ok (.iand, 1) := by decide +kernel
theorem dL_act_186 : decode cL_act 186 = .ok (.invokevirtual 48, 3) := by decide +kernel
theorem dL_act_189 : decode cL_act 189 = .ok (.ireturn, 1) := by decide +kernel
theorem dL_act_190 : decode cL_act 190 = .ok (.aload_n 0, 1) := by decide +kernel
theorem dL_act_191 : decode cL_act 191 = .ok (.iload_n 2, 1) := by decide +kernel
theorem dL_act_192 : decode cL_act 192 = .ok (.iconst 3, 1) := by decide +kernel
theorem dL_act_193 : decode cL_act 193 = .ok (.invokestatic 29, 3) := by decide +kernel
theorem dL_act_196 : decode cL_act 196 = .ok (.iload_n 2, 1) := by decide +kernel
theorem dL_act_197 : decode cL_act 197 = .ok (.iconst 2, 1) := by decide +kernel
theorem dL_act_198 : decode cL_act 198 = .ok (.ishr, 1) := by decide +kernel
theorem dL_act_199 : decode cL_act 199 = .ok (.iconst 4, 1) := by decide +kernel
theorem dL_act_200 : decode cL_act 200 = .ok (.invokestatic 29, 3) := by decide +kernel
theorem dL_act_203 : decode cL_act 203 = .ok (.iload_n 2, 1) := by decide +kernel
theorem dL_act_204 : decode cL_act 204 = .ok (.iconst 4, 1) := by decide +kernel
theorem dL_act_205 : decode cL_act 205 = .ok (.ishr, 1) := by decide +kernel
theorem dL_act_206 : decode cL_act 206 = .ok (.iload_n 2, 1) := by decide +kernel
theorem dL_act_207 : decode cL_act 207 = .ok (.bipush 20, 2) := by decide +kernel
theorem dL_act_209 : decode cL_act 209 = .ok (.ishr, 1) := by decide +kernel
theorem dL_act_210 : decode cL_act 210 = .ok (.bipush 7, 2) := by decide +kernel
theorem dL_act_212 : decode cL_act 212 = .ok (.iand, 1) := by decide +kernel
theorem dL_act_213 : decode cL_act 213 = .ok (.ifCond .ne 8, 3) := by decide +kernel
theorem dL_act_216 : decode cL_act 216 = .ok (.bipush 101, 2) := by decide +kernel
theorem dL_act_218 : decode cL_act 218 = .ok (.goto 5, 3) := by decide +kernel
theorem dL_act_221 : decode cL_act 221 = .ok (.bipush 13, 2) := by decide +kernel
theorem dL_act_223 : decode cL_act 223 = .ok (.invokestatic 29, 3) := by decide +kernel
theorem dL_act_226 : decode cL_act 226 = .ok (.iload_n 2, 1) := by decide +kernel
theorem dL_act_227 : decode cL_act 227 = .ok (.bipush 11, 2) := by decide +kernel
theorem dL_act_229 : decode cL_act 229 = .ok (.ishr, 1) := by decide +kernel
theorem dL_act_230 : decode cL_act 230 = .ok (.sipush 200, 3) := by decide +kernel
theorem dL_act_233 : decode cL_act 233 = .ok (.invokestatic 29, 3) := by decide +kernel
theorem dL_act_236 : decode cL_act 236 = .ok (.invokevirtual 51, 3) := by decide +kernel
theorem dL_act_239 : decode cL_act 239 = .ok (.ireturn, 1) := by decide +kernel
theorem dL_holds_0 : decode cL_holds 0 = .ok (.iconst 0, 1) := by decide +kernel
theorem dL_holds_1 : decode cL_holds 1 = .ok (.istore_n 1, 1) := by decide +kernel
theorem dL_holds_2 : decode cL_holds 2 = .ok (.iconst 0, 1) := by decide +kernel
theorem dL_holds_3 : decode cL_holds 3 = .ok (.istore_n 2, 1) := by decide +kernel
theorem dL_holds_4 : decode cL_holds 4 = .ok (.iload_n 2, 1) := by decide +kernel
theorem dL_holds_5 : decode cL_holds 5 = .ok (.iconst 4, 1) := by decide +kernel
theorem dL_holds_6 : decode cL_holds 6 = .ok (.if_icmp .ge 114, 3) := by decide +kernel
theorem dL_holds_9 : decode cL_holds 9 = .ok (.iconst (-1), 1) := by decide +kernel
theorem dL_holds_10 : decode cL_holds 10 = .ok (.istore_n 3, 1) := by decide +kernel
theorem dL_holds_11 : decode cL_holds 11 = .ok (.iconst 0, 1) := by decide +kernel
theorem dL_holds_12 : decode cL_holds 12 = .ok (.istore 4, 2) := by decide +kernel
theorem dL_holds_14 : decode cL_holds 14 = .ok (.iload 4, 2) := by decide +kernel
theorem dL_holds_16 : decode cL_holds 16 = .ok (.aload_n 0, 1) := by decide +kernel
theorem dL_holds_17 : decode cL_holds 17 = .ok (.iload_n 2, 1) := by decide +kernel
theorem dL_holds_18 : decode cL_holds 18 = .ok (.invokevirtual 12, 3) := by decide +kernel
theorem dL_holds_21 : decode cL_holds 21 = .ok (.if_icmp .ge 66, 3) := by decide +kernel
theorem dL_holds_24 : decode cL_holds 24 = .ok (.aload_n 0, 1) := by decide +kernel
theorem dL_holds_25 : decode cL_holds 25 = .ok (.iload_n 2, 1) := by decide +kernel
theorem dL_holds_26 : decode cL_holds 26 = .ok (.iload 4, 2) := by decide +kernel
theorem dL_holds_28 : decode cL_holds 28 = .ok (.iconst 0, 1) := by decide +kernel
theorem dL_holds_29 : decode cL_holds 29 = .ok (.invokevirtual 18, 3) := by decide +kernel
theorem dL_holds_32 : decode cL_holds 32 = .ok (.istore 5, 2) := by decide +kernel
theorem dL_holds_34 : decode cL_holds 34 = .ok (.iload 5, 2) := by decide +kernel
theorem dL_holds_36 : decode cL_holds 36 = .ok (.iload_n 3, 1) := by decide +kernel
theorem dL_holds_37 : decode cL_holds 37 = .ok (.if_icmp .le 28, 3) := by decide +kernel
theorem dL_holds_40 : decode cL_holds 40 = .ok (.iload 5, 2) := by decide +kernel
theorem dL_holds_42 : decode cL_holds 42 = .ok (.bipush 99, 2) := by decide +kernel
theorem dL_holds_44 : decode cL_holds 44 = .ok (.if_icmp .gt 21, 3) := by decide +kernel
theorem dL_holds_47 : decode cL_holds 47 = .ok (.aload_n 0, 1) := by decide +kernel
theorem dL_holds_48 : decode cL_holds 48 = .ok (.iload_n 2, 1) := by decide +kernel
theorem dL_holds_49 : decode cL_holds 49 = .ok (.iload 5, 2) := by decide +kernel
theorem dL_holds_51 : decode cL_holds 51 = .ok (.invokevirtual 54, 3) := by decide +kernel
theorem dL_holds_54 : decode cL_holds 54 = .ok (.aload_n 0, 1) := by decide +kernel
theorem dL_holds_55 : decode cL_holds 55 = .ok (.iload_n 2, 1) := by decide +kernel
theorem dL_holds_56 : decode cL_holds 56 = .ok (.iload 4, 2) := by decide +kernel
theorem dL_holds_58 : decode cL_holds 58 = .ok (.iconst 1, 1) := by decide +kernel
theorem dL_holds_59 : decode cL_holds 59 = .ok (.invokevirtual 18, 3) := by decide +kernel
theorem dL_holds_62 : decode cL_holds 62 = .ok (.if_icmp .eq 5, 3) := by decide +kernel
theorem dL_holds_65 : decode cL_holds 65 = .ok (.iconst 0, 1) := by decide +kernel
theorem dL_holds_66 : decode cL_holds 66 = .ok (.ireturn, 1) := by decide +kernel
theorem dL_holds_67 : decode cL_holds 67 = .ok (.iload 5, 2) := by decide +kernel
theorem dL_holds_69 : decode cL_holds 69 = .ok (.istore_n 3, 1) := by decide +kernel
theorem dL_holds_70 : decode cL_holds 70 = .ok (.iload_n 1, 1) := by decide +kernel
theorem dL_holds_71 : decode cL_holds 71 = .ok (.aload_n 0, 1) := by decide +kernel
theorem dL_holds_72 : decode cL_holds 72 = .ok (.iload_n 2, 1) := by decide +kernel
theorem dL_holds_73 : decode cL_holds 73 = .ok (.iload 4, 2) := by decide +kernel
theorem dL_holds_75 : decode cL_holds 75 = .ok (.iconst 1, 1) := by decide +kernel
theorem dL_holds_76 : decode cL_holds 76 = .ok (.invokevirtual 18, 3) := by decide +kernel
theorem dL_holds_79 : decode cL_holds 79 = .ok (.iadd, 1) := by decide +kernel
theorem dL_holds_80 : decode cL_holds 80 = .ok (.istore_n 1, 1) := by decide +kernel
theorem dL_holds_81 : decode cL_holds 81 = .ok (.iinc 4 1, 3) := by decide +kernel
theorem dL_holds_84 : decode cL_holds 84 = .ok (.goto (-70), 3) := by decide +kernel
theorem dL_holds_87 : decode cL_holds 87 = .ok (.aload_n 0, 1) := by decide +kernel
theorem dL_holds_88 : decode cL_holds 88 = .ok (.iload_n 2, 1) := by decide +kernel
theorem dL_holds_89 : decode cL_holds 89 = .ok (.invokevirtual 12, 3) := by decide +kernel
theorem dL_holds_92 : decode cL_holds 92 = .ok (.bipush 12, 2) := by decide +kernel
theorem dL_holds_94 : decode cL_holds 94 = .ok (.if_icmp .gt 18, 3) := by decide +kernel
theorem dL_holds_97 : decode cL_holds 97 = .ok (.aload_n 0, 1) := by decide +kernel
theorem dL_holds_98 : decode cL_holds 98 = .ok (.iload_n 2, 1) := by decide +kernel
theorem dL_holds_99 : decode cL_holds 99 = .ok (.aload_n 0, 1) := by decide +kernel
theorem dL_holds_100 : decode cL_holds 100 = .ok (.iload_n 2, 1) := by decide +kernel
theorem dL_holds_101 : decode cL_holds 101 = .ok (.invokevirtual 12, 3) := by decide +kernel
theorem dL_holds_104 : decode cL_holds 104 = .ok (.iconst 0, 1) := by decide +kernel
theorem dL_holds_105 : decode cL_holds 105 = .ok (.invokevirtual 18, 3) := by decide +kernel
theorem dL_holds_108 : decode cL_holds 108 = .ok (.iconst (-1), 1) := by decide +kernel
theorem dL_holds_109 : decode cL_holds 109 = .ok (.if_icmp .eq 5, 3) := by decide +kernel
theorem dL_holds_112 : decode cL_holds 112 = .ok (.iconst 0, 1) := by decide +kernel
theorem dL_holds_113 : decode cL_holds 113 = .ok (.ireturn, 1) := by decide +kernel
theorem dL_holds_114 : decode cL_holds 114 = .ok (.iinc 2 1, 3) := by decide +kernel
theorem dL_holds_117 : decode cL_holds 117 = .ok (.goto (-113), 3) := by decide +kernel
theorem dL_holds_120 : decode cL_holds 120 = .ok (.iconst 0, 1) := by decide +kernel
theorem dL_holds_121 : decode cL_holds 121 = .ok (.istore_n 2, 1) := by decide +kernel
theorem dL_holds_122 : decode cL_holds 122 = .ok (.iconst 0, 1) := by decide +kernel
theorem dL_holds_123 : decode cL_holds 123 = .ok (.istore_n 3, 1) := by decide +kernel
theorem dL_holds_124 : decode cL_holds 124 = .ok (.iload_n 3, 1) := by decide +kernel
theorem dL_holds_125 : decode cL_holds 125 = .ok (.aload_n 0, 1) := by decide +kernel
theorem dL_holds_126 : decode cL_holds 126 = .ok (.iconst 4, 1) := by decide +kernel
theorem dL_holds_127 : decode cL_holds 127 = .ok (.invokevirtual 12, 3) := by decide +kernel
theorem dL_holds_130 : decode cL_holds 130 = .ok (.if_icmp .ge 21, 3) := by decide +kernel
theorem dL_holds_133 : decode cL_holds 133 = .ok (.iload_n 2, 1) := by decide +kernel
theorem dL_holds_134 : decode cL_holds 134 = .ok (.aload_n 0, 1) := by decide +kernel
theorem dL_holds_135 : decode cL_holds 135 = .ok (.iload_n 3, 1) := by decide +kernel
theorem dL_holds_136 : decode cL_holds 136 = .ok (.bipush 9, 2) := by decide +kernel
theorem dL_holds_138 : decode cL_holds 138 = .ok (.invokevirtual 22, 3) := by decide +kernel
theorem dL_holds_141 : decode cL_holds 141 = .ok (.iload_n 3, 1) := by decide +kernel
theorem dL_holds_142 : decode cL_holds 142 = .ok (.ishl, 1) := by decide +kernel
theorem dL_holds_143 : decode cL_holds 143 = .ok (.ior, 1) := by decide +kernel
theorem dL_holds_144 : decode cL_holds 144 = .ok (.istore_n 2, 1) := by decide +kernel
theorem dL_holds_145 : decode cL_holds 145 = .ok (.iinc 3 1, 3) := by decide +kernel
theorem dL_holds_148 : decode cL_holds 148 = .ok (.goto (-24), 3) := by decide +kernel
theorem dL_holds_151 : decode cL_holds 151 = .ok (.iload_n 1, 1) := by decide +kernel
theorem dL_holds_152 : decode cL_holds 152 = .ok (.aload_n 0, 1) := by decide +kernel
theorem dL_holds_153 : decode cL_holds 153 = .ok (.bipush 6, 2) := by decide +kernel
theorem dL_holds_155 : decode cL_holds 155 = .ok (.invokevirtual 12, 3) := by decide +kernel
theorem dL_holds_158 : decode cL_holds 158 = .ok (.if_icmp .ne 27, 3) := by decide +kernel
theorem dL_holds_161 : decode cL_holds 161 = .ok (.iload_n 2, 1) := by decide +kernel
theorem dL_holds_162 : decode cL_holds 162 = .ok (.aload_n 0, 1) := by decide +kernel
theorem dL_holds_163 : decode cL_holds 163 = .ok (.bipush 9, 2) := by decide +kernel
theorem dL_holds_165 : decode cL_holds 165 = .ok (.invokevirtual 12, 3) := by decide +kernel
theorem dL_holds_168 : decode cL_holds 168 = .ok (.if_icmp .ne 17, 3) := by decide +kernel
theorem dL_holds_171 : decode cL_holds 171 = .ok (.aload_n 0, 1) := by decide +kernel
theorem dL_holds_172 : decode cL_holds 172 = .ok (.iconst 5, 1) := by decide +kernel
theorem dL_holds_173 : decode cL_holds 173 = .ok (.invokevirtual 12, 3) := by decide +kernel
theorem dL_holds_176 : decode cL_holds 176 = .ok (.bipush 100, 2) := by decide +kernel
theorem dL_holds_178 : decode cL_holds 178 = .ok (.if_icmp .gt 7, 3) := by decide +kernel
theorem dL_holds_181 : decode cL_holds 181 = .ok (.iconst 1, 1) := by decide +kernel
theorem dL_holds_182 : decode cL_holds 182 = .ok (.goto 4, 3) := by decide +kernel
theorem dL_holds_185 : decode cL_holds 185 = .ok (.iconst 0, 1) := by decide +kernel
theorem dL_holds_186 : decode cL_holds 186 = .ok (.ireturn, 1) := by decide +kernel
theorem dL_law_0 : decode cL_law 0 = .ok (.new 13, 3) := by decide +kernel
theorem dL_law_3 : decode cL_law 3 = .ok (.dup, 1) := by decide +kernel
theorem dL_law_4 : decode cL_law 4 = .ok (.invokespecial 57, 3) := by decide +kernel
theorem dL_law_7 : decode cL_law 7 = .ok (.astore_n 1, 1) := by decide +kernel
theorem dL_law_8 : decode cL_law 8 = .ok (.aload_n 1, 1) := by decide +kernel
theorem dL_law_9 : decode cL_law 9 = .ok (.invokevirtual 58, 3) := by decide +kernel
theorem dL_law_12 : decode cL_law 12 = .ok (.bipush (-5), 2) := by decide +kernel
theorem dL_law_14 : decode cL_law 14 = .ok (.if_icmp .ne 21, 3) := by decide +kernel
theorem dL_law_17 : decode cL_law 17 = .ok (.aload_n 1, 1) := by decide +kernel
theorem dL_law_18 : decode cL_law 18 = .ok (.iconst 1, 1) := by decide +kernel
theorem dL_law_19 : decode cL_law 19 = .ok (.invokevirtual 48, 3) := by decide +kernel
theorem dL_law_22 : decode cL_law 22 = .ok (.bipush (-5), 2) := by decide +kernel
theorem dL_law_24 : decode cL_law 24 = .ok (.if_icmp .ne 11, 3) := by decide +kernel
theorem dL_law_27 : decode cL_law 27 = .ok (.aload_n 1, 1) := by decide +kernel
theorem dL_law_28 : decode cL_law 28 = .ok (.iconst 0, 1) := by decide +kernel
theorem dL_law_29 : decode cL_law 29 = .ok (.invokevirtual 62, 3) := by decide +kernel
theorem dL_law_32 : decode cL_law 32 = .ok (.ifCond .eq 5, 3) := by decide +kernel
theorem dL_law_35 : decode cL_law 35 = .ok (.iconst 0, 1) := by decide +kernel
theorem dL_law_36 : decode cL_law 36 = .ok (.ireturn, 1) := by decide +kernel
theorem dL_law_37 : decode cL_law 37 = .ok (.aload_n 1, 1) := by decide +kernel
theorem dL_law_38 : decode cL_law 38 = .ok (.invokestatic 65, 3) := by decide +kernel
theorem dL_law_41 : decode cL_law 41 = .ok (.lstore_n 2, 1) := by decide +kernel
theorem dL_law_42 : decode cL_law 42 = .ok (.iconst 0, 1) := by decide +kernel
theorem dL_law_43 : decode cL_law 43 = .ok (.istore 4, 2) := by decide +kernel
theorem dL_law_45 : decode cL_law 45 = .ok (.iload 4, 2) := by decide +kernel
theorem dL_law_47 : decode cL_law 47 = .ok (.bipush 32, 2) := by decide +kernel
theorem dL_law_49 : decode cL_law 49 = .ok (.if_icmp .ge 432, 3) := by decide +kernel
theorem dL_law_52 : decode cL_law 52 = .ok (.aload_n 0, 1) := by decide +kernel
theorem dL_law_53 : decode cL_law 53 = .ok (.iconst 2, 1) := by decide +kernel
theorem dL_law_54 : decode cL_law 54 = .ok (.iload 4, 2) := by decide +kernel
theorem dL_law_56 : decode cL_law 56 = .ok (.imul, 1) := by decide +kernel
theorem dL_law_57 : decode cL_law 57 = .ok (.invokestatic 69, 3) := by decide +kernel
theorem dL_law_60 : decode cL_law 60 = .ok (.istore 5, 2) := by decide +kernel
theorem dL_law_62 : decode cL_law 62 = .ok (.aload_n 0, 1) := by decide +kernel
theorem dL_law_63 : decode cL_law 63 = .ok (.iconst 2, 1) := by decide +kernel
theorem dL_law_64 : decode cL_law 64 = .ok (.iload 4, 2) := by decide +kernel
theorem dL_law_66 : decode cL_law 66 = .ok (.imul, 1) := by decide +kernel
theorem dL_law_67 : decode cL_law 67 = .ok (.iconst 1, 1) := by decide +kernel
theorem dL_law_68 : decode cL_law 68 = .ok (.iadd, 1) := by decide +kernel
theorem dL_law_69 : decode cL_law 69 = .ok (.invokestatic 69, 3) := by decide +kernel
theorem dL_law_72 : decode cL_law 72 = .ok (.istore 6, 2) := by decide +kernel
theorem dL_law_74 : decode cL_law 74 = .ok (.aload_n 1, 1) := by decide +kernel
theorem dL_law_75 : decode cL_law 75 = .ok (.invokestatic 65, 3) := by decide +kernel
theorem dL_law_78 : decode cL_law 78 = .ok (.lstore 7, 2) := by decide +kernel
theorem dL_law_80 : decode cL_law 80 = .ok (.aload_n 1, 1) := by decide +kernel
theorem dL_law_81 : decode cL_law 81 = .ok (.bipush 11, 2) := by decide +kernel
theorem dL_law_83 : decode cL_law 83 = .ok (.invokevirtual 12, 3) := by decide +kernel
theorem dL_law_86 : decode cL_law 86 = .ok (.istore 9, 2) := by decide +kernel
theorem dL_law_88 : decode cL_law 88 = .ok (.aload_n 1, 1) := by decide +kernel
theorem dL_law_89 : decode cL_law 89 = .ok (.iload 5, 2) := by decide +kernel
theorem dL_law_91 : decode cL_law 91 = .ok (.iload 6, 2) := by decide +kernel
theorem dL_law_93 : decode cL_law 93 = .ok (.invokestatic 73, 3) := by decide +kernel
theorem dL_law_96 : decode cL_law 96 = .ok (.istore 10, 2) := by decide +kernel
theorem dL_law_98 : decode cL_law 98 = .ok (.aload_n 1, 1) := by decide +kernel
theorem dL_law_99 : decode cL_law 99 = .ok (.invokestatic 65, 3) := by decide +kernel
theorem dL_law_102 : decode cL_law 102 = .ok (.lstore 11, 2) := by decide +kernel
theorem dL_law_104 : decode cL_law 104 = .ok (.iload 10, 2) := by decide +kernel
theorem dL_law_106 : decode cL_law 106 = .ok (.ifCond .ge 25, 3) := by decide +kernel
theorem dL_law_109 : decode cL_law 109 = .ok (.lload 11, 2) := by decide +kernel
theorem dL_law_111 : decode cL_law 111 = .ok (.lload 7, 2) := by decide +kernel
theorem dL_law_113 : decode cL_law 113 = .ok (.lcmp, 1) := by decide +kernel
theorem dL_law_114 : decode cL_law 114 = .ok (.ifCond .ne 42, 3) := by decide +kernel
theorem dL_law_117 : decode cL_law 117 = .ok (.aload_n 1, 1) := by decide +kernel
theorem dL_law_118 : decode cL_law 118 = .ok (.bipush 11, 2) := by decide +kernel
theorem dL_law_120 : decode cL_law 120 = .ok (.invokevirtual 12, 3) := by decide +kernel
theorem dL_law_123 : decode cL_law 123 = .ok (.iload 9, 2) := by decide +kernel
theorem dL_law_125 : decode cL_law 125 = .ok (.if_icmp .eq 33, 3) := by decide +kernel
theorem dL_law_128 : decode cL_law 128 = .ok (.goto 28, 3) := by decide +kernel
theorem dL_law_131 : decode cL_law 131 = .ok (.aload_n 1, 1) := by decide +kernel
theorem dL_law_132 : decode cL_law 132 = .ok (.bipush 11, 2) := by decide +kernel
theorem dL_law_134 : decode cL_law 134 = .ok (.invokevirtual 12, 3) := by decide +kernel
theorem dL_law_137 : decode cL_law 137 = .ok (.iload 9, 2) := by decide +kernel
theorem dL_law_139 : decode cL_law 139 = .ok (.bipush 6, 2) := by decide +kernel
theorem dL_law_141 : decode cL_law 141 = .ok (.if_icmp .ge 10, 3) := by decide +kernel
theorem dL_law_144 : decode cL_law 144 = .ok (.iload 9, 2) := by decide +kernel
theorem dL_law_146 : decode cL_law 146 = .ok (.iconst 1, 1) := by decide +kernel
theorem dL_law_147 : decode cL_law 147 = .ok (.iadd, 1) := by decide +kernel
theorem dL_law_148 : decode cL_law 148 = .ok (.goto 5, 3) := by decide +kernel
theorem dL_law_151 : decode cL_law 151 = .ok (.bipush 6, 2) := by decide +kernel
theorem dL_law_153 : decode cL_law 153 = .ok (.if_icmp .eq 5, 3) := by decide +kernel
theorem dL_law_156 : decode cL_law 156 = .ok (.iconst 0, 1) := by decide +kernel
theorem dL_law_157 : decode cL_law 157 = .ok (.ireturn, 1) := by decide +kernel
theorem dL_law_158 : decode cL_law 158 = .ok (.iload 10, 2) := by decide +kernel
theorem dL_law_160 : decode cL_law 160 = .ok (.ifCond .lt 22, 3) := by decide +kernel
theorem dL_law_163 : decode cL_law 163 = .ok (.iload 5, 2) := by decide +kernel
theorem dL_law_165 : decode cL_law 165 = .ok (.bipush 15, 2) := by decide +kernel
theorem dL_law_167 : decode cL_law 167 = .ok (.iand, 1) := by decide +kernel
theorem dL_law_168 : decode cL_law 168 = .ok (.bipush 6, 2) := by decide +kernel
theorem dL_law_170 : decode cL_law 170 = .ok (.if_icmp .ne 12, 3) := by decide +kernel
theorem dL_law_173 : decode cL_law 173 = .ok (.lload 11, 2) := by decide +kernel
theorem dL_law_175 : decode cL_law 175 = .ok (.lload_n 2, 1) := by decide +kernel
theorem dL_law_176 : decode cL_law 176 = .ok (.lcmp, 1) := by decide +kernel
theorem dL_law_177 : decode cL_law 177 = .ok (.ifCond .eq 5, 3) := by decide +kernel
theorem dL_law_180 : decode cL_law 180 = .ok (.iconst 0, 1) := by decide +kernel
theorem dL_law_181 : decode cL_law 181 = .ok (.ireturn, 1) := by decide +kernel
theorem dL_law_182 : decode cL_law 182 = .ok (.iload 10, 2) := by decide +kernel
theorem dL_law_184 : decode cL_law 184 = .ok (.ifCond .lt 68, 3) := by decide +kernel
theorem dL_law_187 : decode cL_law 187 = .ok (.iload 5, 2) := by decide +kernel
theorem dL_law_189 : decode cL_law 189 = .ok (.bipush 8, 2) := by decide +kernel
theorem dL_law_191 : decode cL_law 191 = .ok (.ishr, 1) := by decide +kernel
theorem dL_law_192 : decode cL_law 192 = .ok (.iconst 1, 1) := by decide +kernel
theorem dL_law_193 : decode cL_law 193 = .ok (.iand, 1) := by decide +kernel
theorem dL_law_194 : decode cL_law 194 = .ok (.iconst 1, 1) := by decide +kernel
theorem dL_law_195 : decode cL_law 195 = .ok (.if_icmp .ne 57, 3) := by decide +kernel
theorem dL_law_198 : decode cL_law 198 = .ok (.aload_n 1, 1) := by decide +kernel
theorem dL_law_199 : decode cL_law 199 = .ok (.bipush 11, 2) := by decide +kernel
theorem dL_law_201 : decode cL_law 201 = .ok (.invokevirtual 12, 3) := by decide +kernel
theorem dL_law_204 : decode cL_law 204 = .ok (.iconst 1, 1) := by decide +kernel
theorem dL_law_205 : decode cL_law 205 = .ok (.isub, 1) := by decide +kernel
theorem dL_law_206 : decode cL_law 206 = .ok (.istore 13, 2) := by decide +kernel
theorem dL_law_208 : decode cL_law 208 = .ok (.aload_n 1, 1) := by decide +kernel
theorem dL_law_209 : decode cL_law 209 = .ok (.invokevirtual 58, 3) := by decide +kernel
theorem dL_law_212 : decode cL_law 212 = .ok (.iload 13, 2) := by decide +kernel
theorem dL_law_214 : decode cL_law 214 = .ok (.if_icmp .ne 36, 3) := by decide +kernel
theorem dL_law_217 : decode cL_law 217 = .ok (.aload_n 1, 1) := by decide +kernel
theorem dL_law_218 : decode cL_law 218 = .ok (.invokestatic 65, 3) := by decide +kernel
theorem dL_law_221 : decode cL_law 221 = .ok (.lload 7, 2) := by decide +kernel
theorem dL_law_223 : decode cL_law 223 = .ok (.lcmp, 1) := by decide +kernel
theorem dL_law_224 : decode cL_law 224 = .ok (.ifCond .ne 26, 3) := by decide +kernel
theorem dL_law_227 : decode cL_law 227 = .ok (.aload_n 1, 1) := by decide +kernel
theorem dL_law_228 : decode cL_law 228 = .ok (.iload 5, 2) := by decide +kernel
theorem dL_law_230 : decode cL_law 230 = .ok (.iload 6, 2) := by decide +kernel
theorem dL_law_232 : decode cL_law 232 = .ok (.invokestatic 73, 3) := by decide +kernel
theorem dL_law_235 : decode cL_law 235 = .ok (.iload 10, 2) := by decide +kernel
theorem dL_law_237 : decode cL_law 237 = .ok (.if_icmp .ne 13, 3) := by decide +kernel
theorem dL_law_240 : decode cL_law 240 = .ok (.aload_n 1, 1) := by decide +kernel
theorem dL_law_241 : decode cL_law 241 = .ok (.invokestatic 65, 3) := by decide +kernel
theorem dL_law_244 : decode cL_law 244 = .ok (.lload 11, 2) := by decide +kernel
theorem dL_law_246 : decode cL_law 246 = .ok (.lcmp, 1) := by decide +kernel
theorem dL_law_247 : decode cL_law 247 = .ok (.ifCond .eq 5, 3) := by decide +kernel
theorem dL_law_250 : decode cL_law 250 = .ok (.iconst 0, 1) := by decide +kernel
theorem dL_law_251 : decode cL_law 251 = .ok (.ireturn, 1) := by decide +kernel
theorem dL_law_252 : decode cL_law 252 = .ok (.iload 6, 2) := by decide +kernel
theorem dL_law_254 : decode cL_law 254 = .ok (.iconst 3, 1) := by decide +kernel
theorem dL_law_255 : decode cL_law 255 = .ok (.invokestatic 29, 3) := by decide +kernel
theorem dL_law_258 : decode cL_law 258 = .ok (.istore 13, 2) := by decide +kernel
theorem dL_law_260 : decode cL_law 260 = .ok (.iload 6, 2) := by decide +kernel
theorem dL_law_262 : decode cL_law 262 = .ok (.iconst 2, 1) := by decide +kernel
theorem dL_law_263 : decode cL_law 263 = .ok (.ishr, 1) := by decide +kernel
theorem dL_law_264 : decode cL_law 264 = .ok (.iconst 3, 1) := by decide +kernel
theorem dL_law_265 : decode cL_law 265 = .ok (.iand, 1) := by decide +kernel
theorem dL_law_266 : decode cL_law 266 = .ok (.istore 14, 2) := by decide +kernel
theorem dL_law_268 : decode cL_law 268 = .ok (.iload 6, 2) := by decide +kernel
theorem dL_law_270 : decode cL_law 270 = .ok (.iconst 4, 1) := by decide +kernel
theorem dL_law_271 : decode cL_law 271 = .ok (.ishr, 1) := by decide +kernel
theorem dL_law_272 : decode cL_law 272 = .ok (.bipush 13, 2) := by decide +kernel
theorem dL_law_274 : decode cL_law 274 = .ok (.invokestatic 29, 3) := by decide +kernel
theorem dL_law_277 : decode cL_law 277 = .ok (.istore 15, 2) := by decide +kernel
theorem dL_law_279 : decode cL_law 279 = .ok (.aload_n 1, 1) := by decide +kernel
theorem dL_law_280 : decode cL_law 280 = .ok (.iload 13, 2) := by decide +kernel
theorem dL_law_282 : decode cL_law 282 = .ok (.iload 14, 2) := by decide +kernel
theorem dL_law_284 : decode cL_law 284 = .ok (.iload 15, 2) := by decide +kernel
theorem dL_law_286 : decode cL_law 286 = .ok (.iconst 5, 1) := by decide +kernel
theorem dL_law_287 : decode cL_law 287 = .ok (.iconst 0, 1) := by decide +kernel
theorem dL_law_288 : decode cL_law 288 = .ok (.invokevirtual 77, 3) := by decide +kernel
theorem dL_law_291 : decode cL_law 291 = .ok (.istore 16, 2) := by decide +kernel
theorem dL_law_293 : decode cL_law 293 = .ok (.aload_n 1, 1) := by decide +kernel
theorem dL_law_294 : decode cL_law 294 = .ok (.iload 13, 2) := by decide +kernel
theorem dL_law_296 : decode cL_law 296 = .ok (.iload 14, 2) := by decide +kernel
theorem dL_law_298 : decode cL_law 298 = .ok (.iload 15, 2) := by decide +kernel
theorem dL_law_300 : decode cL_law 300 = .ok (.iconst 5, 1) := by decide +kernel
theorem dL_law_301 : decode cL_law 301 = .ok (.iconst 1, 1) := by decide +kernel
theorem dL_law_302 : decode cL_law 302 = .ok (.invokevirtual 77, 3) := by decide +kernel
theorem dL_law_305 : decode cL_law 305 = .ok (.istore 17, 2) := by decide +kernel
theorem dL_law_307 : decode cL_law 307 = .ok (.aload_n 1, 1) := by decide +kernel
theorem dL_law_308 : decode cL_law 308 = .ok (.iload 13, 2) := by decide +kernel
theorem dL_law_310 : decode cL_law 310 = .ok (.iload 14, 2) := by decide +kernel
theorem dL_law_312 : decode cL_law 312 = .ok (.iload 15, 2) := by decide +kernel
theorem dL_law_314 : decode cL_law 314 = .ok (.iconst 5, 1) := by decide +kernel
theorem dL_law_315 : decode cL_law 315 = .ok (.iconst 4, 1) := by decide +kernel
theorem dL_law_316 : decode cL_law 316 = .ok (.invokevirtual 77, 3) := by decide +kernel
theorem dL_law_319 : decode cL_law 319 = .ok (.istore 18, 2) := by decide +kernel
theorem dL_law_321 : decode cL_law 321 = .ok (.iload 16, 2) := by decide +kernel
theorem dL_law_323 : decode cL_law 323 = .ok (.ifCond .ne 46, 3) := by decide +kernel
theorem dL_law_326 : decode cL_law 326 = .ok (.iload 17, 2) := by decide +kernel
theorem dL_law_328 : decode cL_law 328 = .ok (.ifCond .le 37, 3) := by decide +kernel
theorem dL_law_331 : decode cL_law 331 = .ok (.iload 17, 2) := by decide +kernel
theorem dL_law_333 : decode cL_law 333 = .ok (.aload_n 1, 1) := by decide +kernel
theorem dL_law_334 : decode cL_law 334 = .ok (.iload 13, 2) := by decide +kernel
theorem dL_law_336 : decode cL_law 336 = .ok (.iload 14, 2) := by decide +kernel
theorem dL_law_338 : decode cL_law 338 = .ok (.iload 15, 2) := by decide +kernel
theorem dL_law_340 : decode cL_law 340 = .ok (.iconst 5, 1) := by decide +kernel
theorem dL_law_341 : decode cL_law 341 = .ok (.iconst 3, 1) := by decide +kernel
theorem dL_law_342 : decode cL_law 342 = .ok (.invokevirtual 77, 3) := by decide +kernel
theorem dL_law_345 : decode cL_law 345 = .ok (.iadd, 1) := by decide +kernel
theorem dL_law_346 : decode cL_law 346 = .ok (.aload_n 1, 1) := by decide +kernel
theorem dL_law_347 : decode cL_law 347 = .ok (.iload 13, 2) := by decide +kernel
theorem dL_law_349 : decode cL_law 349 = .ok (.iload 14, 2) := by decide +kernel
theorem dL_law_351 : decode cL_law 351 = .ok (.iload 15, 2) := by decide +kernel
theorem dL_law_353 : decode cL_law 353 = .ok (.iconst 5, 1) := by decide +kernel
theorem dL_law_354 : decode cL_law 354 = .ok (.iconst 2, 1) := by decide +kernel
theorem dL_law_355 : decode cL_law 355 = .ok (.invokevirtual 77, 3) := by decide +kernel
theorem dL_law_358 : decode cL_law 358 = .ok (.if_icmp .ne 7, 3) := by decide +kernel
theorem dL_law_361 : decode cL_law 361 = .ok (.iconst 1, 1) := by decide +kernel
theorem dL_law_362 : decode cL_law 362 = .ok (.goto 17, 3) := by decide +kernel
theorem dL_law_365 : decode cL_law 365 = .ok (.iconst 0, 1) := by decide +kernel
theorem dL_law_366 : decode cL_law 366 = .ok (.goto 13, 3) := by decide +kernel
theorem dL_law_369 : decode cL_law 369 = .ok (.iload 17, 2) := by decide +kernel
theorem dL_law_371 : decode cL_law 371 = .ok (.ifCond .ne 7, 3) := by decide +kernel
theorem dL_law_374 : decode cL_law 374 = .ok (.iconst 1, 1) := by decide +kernel
theorem dL_law_375 : decode cL_law 375 = .ok (.goto 4, 3) := by decide +kernel
theorem dL_law_378 : decode cL_law 378 = .ok (.iconst 0, 1) := by decide +kernel
theorem dL_law_379 : decode cL_law 379 = .ok (.istore 19, 2) := by decide +kernel
theorem dL_law_381 : decode cL_law 381 = .ok (.iload 19, 2) := by decide +kernel
theorem dL_law_383 : decode cL_law 383 = .ok (.ifCond .eq 70, 3) := by decide +kernel
theorem dL_law_386 : decode cL_law 386 = .ok (.iload 18, 2) := by decide +kernel
theorem dL_law_388 : decode cL_law 388 = .ok (.ifCond .lt 65, 3) := by decide +kernel
theorem dL_law_391 : decode cL_law 391 = .ok (.iload 18, 2) := by decide +kernel
theorem dL_law_393 : decode cL_law 393 = .ok (.aload_n 1, 1) := by decide +kernel
theorem dL_law_394 : decode cL_law 394 = .ok (.bipush 7, 2) := by decide +kernel
theorem dL_law_396 : decode cL_law 396 = .ok (.invokevirtual 12, 3) := by decide +kernel
theorem dL_law_399 : decode cL_law 399 = .ok (.if_icmp .gt 54, 3) := by decide +kernel
theorem dL_law_402 : decode cL_law 402 = .ok (.aload_n 1, 1) := by decide +kernel
theorem dL_law_403 : decode cL_law 403 = .ok (.iload 13, 2) := by decide +kernel
theorem dL_law_405 : decode cL_law 405 = .ok (.iload 14, 2) := by decide +kernel
theorem dL_law_407 : decode cL_law 407 = .ok (.iload 15, 2) := by decide +kernel
theorem dL_law_409 : decode cL_law 409 = .ok (.iconst 5, 1) := by decide +kernel
theorem dL_law_410 : decode cL_law 410 = .ok (.invokevirtual 80, 3) := by decide +kernel
theorem dL_law_413 : decode cL_law 413 = .ok (.bipush (-6), 2) := by decide +kernel
theorem dL_law_415 : decode cL_law 415 = .ok (.if_icmp .ne 7, 3) := by decide +kernel
theorem dL_law_418 : decode cL_law 418 = .ok (.iconst 1, 1) := by decide +kernel
theorem dL_law_419 : decode cL_law 419 = .ok (.goto 4, 3) := by decide +kernel
theorem dL_law_422 : decode cL_law 422 = .ok (.iconst 0, 1) := by decide +kernel
theorem dL_law_423 : decode cL_law 423 = .ok (.iload 16, 2) := by decide +kernel
theorem dL_law_425 : decode cL_law 425 = .ok (.ifCond .ne 7, 3) := by decide +kernel
theorem dL_law_428 : decode cL_law 428 = .ok (.iconst 1, 1) := by decide +kernel
theorem dL_law_429 : decode cL_law 429 = .ok (.goto 4, 3) := by decide +kernel
theorem dL_law_432 : decode cL_law 432 = .ok (.iconst 0, 1) := by decide +kernel
theorem dL_law_433 : decode cL_law 433 = .ok (.if_icmp .ne 20, 3) := by decide +kernel
theorem dL_law_436 : decode cL_law 436 = .ok (.aload_n 1, 1) := by decide +kernel
theorem dL_law_437 : decode cL_law 437 = .ok (.invokestatic 83, 3) := by decide +kernel
theorem dL_law_440 : decode cL_law 440 = .ok (.ifCond .eq 13, 3) := by decide +kernel
theorem dL_law_443 : decode cL_law 443 = .ok (.aload_n 1, 1) := by decide +kernel
theorem dL_law_444 : decode cL_law 444 = .ok (.invokestatic 65, 3) := by decide +kernel
theorem dL_law_447 : decode cL_law 447 = .ok (.lload 11, 2) := by decide +kernel
theorem dL_law_449 : decode cL_law 449 = .ok (.lcmp, 1) := by decide +kernel
theorem dL_law_450 : decode cL_law 450 = .ok (.ifCond .eq 5, 3) := by decide +kernel
theorem dL_law_453 : decode cL_law 453 = .ok (.iconst 0, 1) := by decide +kernel
theorem dL_law_454 : decode cL_law 454 = .ok (.ireturn, 1) := by decide +kernel
theorem dL_law_455 : decode cL_law 455 = .ok (.iload 5, 2) := by decide +kernel
theorem dL_law_457 : decode cL_law 457 = .ok (.bipush 9, 2) := by decide +kernel
theorem dL_law_459 : decode cL_law 459 = .ok (.ishr, 1) := by decide +kernel
theorem dL_law_460 : decode cL_law 460 = .ok (.bipush 7, 2) := by decide +kernel
theorem dL_law_462 : decode cL_law 462 = .ok (.iand, 1) := by decide +kernel
theorem dL_law_463 : decode cL_law 463 = .ok (.ifCond .ne 12, 3) := by decide +kernel
theorem dL_law_466 : decode cL_law 466 = .ok (.aload_n 1, 1) := by decide +kernel
theorem dL_law_467 : decode cL_law 467 = .ok (.iconst 0, 1) := by decide +kernel
theorem dL_law_468 : decode cL_law 468 = .ok (.invokevirtual 62, 3) := by decide +kernel
theorem dL_law_471 : decode cL_law 471 = .ok (.pop, 1) := by decide +kernel
theorem dL_law_472 : decode cL_law 472 = .ok (.lload 11, 2) := by decide +kernel
theorem dL_law_474 : decode cL_law 474 = .ok (.lstore_n 2, 1) := by decide +kernel
theorem dL_law_475 : decode cL_law 475 = .ok (.iinc 4 1, 3) := by decide +kernel
theorem dL_law_478 : decode cL_law 478 = .ok (.goto (-433), 3) := by decide +kernel
theorem dL_law_481 : decode cL_law 481 = .ok (.aload_n 1, 1) := by decide +kernel
theorem dL_law_482 : decode cL_law 482 = .ok (.iconst 0, 1) := by decide +kernel
theorem dL_law_483 : decode cL_law 483 = .ok (.invokevirtual 48, 3) := by decide +kernel
theorem dL_law_486 : decode cL_law 486 = .ok (.aload_n 1, 1) := by decide +kernel
theorem dL_law_487 : decode cL_law 487 = .ok (.iconst 0, 1) := by decide +kernel
theorem dL_law_488 : decode cL_law 488 = .ok (.invokevirtual 12, 3) := by decide +kernel
theorem dL_law_491 : decode cL_law 491 = .ok (.aload_n 1, 1) := by decide +kernel
theorem dL_law_492 : decode cL_law 492 = .ok (.iconst 1, 1) := by decide +kernel
theorem dL_law_493 : decode cL_law 493 = .ok (.invokevirtual 12, 3) := by decide +kernel
theorem dL_law_496 : decode cL_law 496 = .ok (.iadd, 1) := by decide +kernel
theorem dL_law_497 : decode cL_law 497 = .ok (.aload_n 1, 1) := by decide +kernel
theorem dL_law_498 : decode cL_law 498 = .ok (.iconst 2, 1) := by decide +kernel
theorem dL_law_499 : decode cL_law 499 = .ok (.invokevirtual 12, 3) := by decide +kernel
theorem dL_law_502 : decode cL_law 502 = .ok (.iadd, 1) := by decide +kernel
theorem dL_law_503 : decode cL_law 503 = .ok (.aload_n 1, 1) := by decide +kernel
theorem dL_law_504 : decode cL_law 504 = .ok (.iconst 3, 1) := by decide +kernel
theorem dL_law_505 : decode cL_law 505 = .ok (.invokevirtual 12, 3) := by decide +kernel
theorem dL_law_508 : decode cL_law 508 = .ok (.iadd, 1) := by decide +kernel
theorem dL_law_509 : decode cL_law 509 = .ok (.if_icmp .ne 16, 3) := by decide +kernel
theorem dL_law_512 : decode cL_law 512 = .ok (.aload_n 1, 1) := by decide +kernel
theorem dL_law_513 : decode cL_law 513 = .ok (.invokestatic 65, 3) := by decide +kernel
theorem dL_law_516 : decode cL_law 516 = .ok (.lload_n 2, 1) := by decide +kernel
theorem dL_law_517 : decode cL_law 517 = .ok (.lcmp, 1) := by decide +kernel
theorem dL_law_518 : decode cL_law 518 = .ok (.ifCond .ne 7, 3) := by decide +kernel
theorem dL_law_521 : decode cL_law 521 = .ok (.iconst 1, 1) := by decide +kernel
theorem dL_law_522 : decode cL_law 522 = .ok (.goto 4, 3) := by decide +kernel
theorem dL_law_525 : decode cL_law 525 = .ok (.iconst 0, 1) := by decide +kernel
theorem dL_law_526 : decode cL_law 526 = .ok (.ireturn, 1) := by decide +kernel
