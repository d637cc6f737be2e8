theorem dX7_init_0 : decode cX7_init 0 = .ok (.aload_n 0, 1) := by decide +kernel
theorem dX7_init_1 : decode cX7_init 1 = .ok (.invokespecial 1, 3) := by decide +kernel
theorem dX7_init_4 : decode cX7_init 4 = .ok (.aload_n 0, 1) := by decide +kernel
theorem dX7_init_5 : decode cX7_init 5 = .ok (.sipush 275, 3) := by decide +kernel
theorem dX7_init_8 : decode cX7_init 8 = .ok (.newarray .int, 2) := by decide +kernel
theorem dX7_init_10 : decode cX7_init 10 = .ok (.putfield 7, 3) := by decide +kernel
theorem dX7_init_13 : decode cX7_init 13 = .ok (.aload_n 0, 1) := by decide +kernel
theorem dX7_init_14 : decode cX7_init 14 = .ok (.sipush 2200, 3) := by decide +kernel
theorem dX7_init_17 : decode cX7_init 17 = .ok (.newarray .int, 2) := by decide +kernel
theorem dX7_init_19 : decode cX7_init 19 = .ok (.putfield 13, 3) := by decide +kernel
theorem dX7_init_22 : decode cX7_init 22 = .ok (.aload_n 0, 1) := by decide +kernel
theorem dX7_init_23 : decode cX7_init 23 = .ok (.sipush 275, 3) := by decide +kernel
theorem dX7_init_26 : decode cX7_init 26 = .ok (.newarray .int, 2) := by decide +kernel
theorem dX7_init_28 : decode cX7_init 28 = .ok (.putfield 16, 3) := by decide +kernel
theorem dX7_init_31 : decode cX7_init 31 = .ok (.aload_n 0, 1) := by decide +kernel
theorem dX7_init_32 : decode cX7_init 32 = .ok (.sipush 275, 3) := by decide +kernel
theorem dX7_init_35 : decode cX7_init 35 = .ok (.newarray .int, 2) := by decide +kernel
theorem dX7_init_37 : decode cX7_init 37 = .ok (.putfield 19, 3) := by decide +kernel
theorem dX7_init_40 : decode cX7_init 40 = .ok (.aload_n 0, 1) := by decide +kernel
theorem dX7_init_41 : decode cX7_init 41 = .ok (.sipush 275, 3) := by decide +kernel
theorem dX7_init_44 : decode cX7_init 44 = .ok (.newarray .int, 2) := by decide +kernel
theorem dX7_init_46 : decode cX7_init 46 = .ok (.putfield 22, 3) := by decide +kernel
theorem dX7_init_49 : decode cX7_init 49 = .ok (.aload_n 0, 1) := by decide +kernel
theorem dX7_init_50 : decode cX7_init 50 = .ok (.bipush 60, 2) := by decide +kernel
theorem dX7_init_52 : decode cX7_init 52 = .ok (.newarray .int, 2) := by decide +kernel
theorem dX7_init_54 : decode cX7_init 54 = .ok (.putfield 25, 3) := by decide +kernel
theorem dX7_init_57 : decode cX7_init 57 = .ok (.aload_n 0, 1) := by decide +kernel
theorem dX7_init_58 : decode cX7_init 58 = .ok (.iconst (-1), 1) := by decide +kernel
theorem dX7_init_59 : decode cX7_init 59 = .ok (.putfield 28, 3) := by decide +kernel
theorem dX7_init_62 : decode cX7_init 62 = .ok (.aload_n 0, 1) := by decide +kernel
theorem dX7_init_63 : decode cX7_init 63 = .ok (.bipush 124, 2) := by decide +kernel
theorem dX7_init_65 : decode cX7_init 65 = .ok (.newarray .int, 2) := by decide +kernel
theorem dX7_init_67 : decode cX7_init 67 = .ok (.putfield 32, 3) := by decide +kernel
theorem dX7_init_70 : decode cX7_init 70 = .ok (.aload_n 0, 1) := by decide +kernel
theorem dX7_init_71 : decode cX7_init 71 = .ok (.getfield 7, 3) := by decide +kernel
theorem dX7_init_74 : decode cX7_init 74 = .ok (.iconst 1, 1) := by decide +kernel
theorem dX7_init_75 : decode cX7_init 75 = .ok (.bipush 16, 2) := by decide +kernel
theorem dX7_init_77 : decode cX7_init 77 = .ok (.iastore, 1) := by decide +kernel
theorem dX7_init_78 : decode cX7_init 78 = .ok (.bipush 6, 2) := by decide +kernel
theorem dX7_init_80 : decode cX7_init 80 = .ok (.istore_n 1, 1) := by decide +kernel
theorem dX7_init_81 : decode cX7_init 81 = .ok (.iload_n 1, 1) := by decide +kernel
theorem dX7_init_82 : decode cX7_init 82 = .ok (.bipush 19, 2) := by decide +kernel
theorem dX7_init_84 : decode cX7_init 84 = .ok (.if_icmp .gt 20, 3) := by decide +kernel
theorem dX7_init_87 : decode cX7_init 87 = .ok (.aload_n 0, 1) := by decide +kernel
theorem dX7_init_88 : decode cX7_init 88 = .ok (.getfield 7, 3) := by decide +kernel
theorem dX7_init_91 : decode cX7_init 91 = .ok (.bipush 26, 2) := by decide +kernel
theorem dX7_init_93 : decode cX7_init 93 = .ok (.iload_n 1, 1) := by decide +kernel
theorem dX7_init_94 : decode cX7_init 94 = .ok (.iadd, 1) := by decide +kernel
theorem dX7_init_95 : decode cX7_init 95 = .ok (.bipush 7, 2) := by decide +kernel
theorem dX7_init_97 : decode cX7_init 97 = .ok (.iastore, 1) := by decide +kernel
theorem dX7_init_98 : decode cX7_init 98 = .ok (.iinc 1 1, 3) := by decide +kernel
theorem dX7_init_101 : decode cX7_init 101 = .ok (.goto (-20), 3) := by decide +kernel
theorem dX7_init_104 : decode cX7_init 104 = .ok (.return_, 1) := by decide +kernel
theorem dX7_thrown_0 : decode cX7_thrown 0 = .ok (.aload_n 0, 1) := by decide +kernel
theorem dX7_thrown_1 : decode cX7_thrown 1 = .ok (.getfield 35, 3) := by decide +kernel
theorem dX7_thrown_4 : decode cX7_thrown 4 = .ok (.ireturn, 1) := by decide +kernel
theorem dX7_fails_0 : decode cX7_fails 0 = .ok (.aload_n 0, 1) := by decide +kernel
theorem dX7_fails_1 : decode cX7_fails 1 = .ok (.iload_n 1, 1) := by decide +kernel
theorem dX7_fails_2 : decode cX7_fails 2 = .ok (.putfield 35, 3) := by decide +kernel
theorem dX7_fails_5 : decode cX7_fails 5 = .ok (.iload_n 1, 1) := by decide +kernel
theorem dX7_fails_6 : decode cX7_fails 6 = .ok (.ifCond .le 7, 3) := by decide +kernel
theorem dX7_fails_9 : decode cX7_fails 9 = .ok (.iconst 1, 1) := by decide +kernel
theorem dX7_fails_10 : decode cX7_fails 10 = .ok (.goto 4, 3) := by decide +kernel
theorem dX7_fails_13 : decode cX7_fails 13 = .ok (.iconst 0, 1) := by decide +kernel
theorem dX7_fails_14 : decode cX7_fails 14 = .ok (.ireturn, 1) := by decide +kernel
theorem dX7_refuses_0 : decode cX7_refuses 0 = .ok (.aload_n 0, 1) := by decide +kernel
theorem dX7_refuses_1 : decode cX7_refuses 1 = .ok (.iload_n 1, 1) := by decide +kernel
theorem dX7_refuses_2 : decode cX7_refuses 2 = .ok (.putfield 35, 3) := by decide +kernel
theorem dX7_refuses_5 : decode cX7_refuses 5 = .ok (.aload_n 0, 1) := by decide +kernel
theorem dX7_refuses_6 : decode cX7_refuses 6 = .ok (.iconst 1, 1) := by decide +kernel
theorem dX7_refuses_7 : decode cX7_refuses 7 = .ok (.putfield 38, 3) := by decide +kernel
theorem dX7_refuses_10 : decode cX7_refuses 10 = .ok (.aload_n 0, 1) := by decide +kernel
theorem dX7_refuses_11 : decode cX7_refuses 11 = .ok (.iload_n 2, 1) := by decide +kernel
theorem dX7_refuses_12 : decode cX7_refuses 12 = .ok (.putfield 42, 3) := by decide +kernel
theorem dX7_refuses_15 : decode cX7_refuses 15 = .ok (.aload_n 0, 1) := by decide +kernel
theorem dX7_refuses_16 : decode cX7_refuses 16 = .ok (.iload_n 3, 1) := by decide +kernel
theorem dX7_refuses_17 : decode cX7_refuses 17 = .ok (.putfield 45, 3) := by decide +kernel
theorem dX7_refuses_20 : decode cX7_refuses 20 = .ok (.iconst 0, 1) := by decide +kernel
theorem dX7_refuses_21 : decode cX7_refuses 21 = .ok (.ireturn, 1) := by decide +kernel
theorem dX7_in_0 : decode cX7_in 0 = .ok (.iload_n 0, 1) := by decide +kernel
theorem dX7_in_1 : decode cX7_in 1 = .ok (.iload_n 1, 1) := by decide +kernel
theorem dX7_in_2 : decode cX7_in 2 = .ok (.if_icmp .lt 12, 3) := by decide +kernel
theorem dX7_in_5 : decode cX7_in 5 = .ok (.iload_n 0, 1) := by decide +kernel
theorem dX7_in_6 : decode cX7_in 6 = .ok (.iload_n 2, 1) := by decide +kernel
theorem dX7_in_7 : decode cX7_in 7 = .ok (.if_icmp .gt 7, 3) := by decide +kernel
theorem dX7_in_10 : decode cX7_in 10 = .ok (.iconst 1, 1) := by decide +kernel
theorem dX7_in_11 : decode cX7_in 11 = .ok (.goto 4, 3) := by decide +kernel
theorem dX7_in_14 : decode cX7_in 14 = .ok (.iconst 0, 1) := by decide +kernel
theorem dX7_in_15 : decode cX7_in 15 = .ok (.ireturn, 1) := by decide +kernel
theorem dX7_less_0 : decode cX7_less 0 = .ok (.iload_n 0, 1) := by decide +kernel
theorem dX7_less_1 : decode cX7_less 1 = .ok (.iload_n 1, 1) := by decide +kernel
theorem dX7_less_2 : decode cX7_less 2 = .ok (.if_icmp .ge 7, 3) := by decide +kernel
theorem dX7_less_5 : decode cX7_less 5 = .ok (.iload_n 0, 1) := by decide +kernel
theorem dX7_less_6 : decode cX7_less 6 = .ok (.goto 4, 3) := by decide +kernel
theorem dX7_less_9 : decode cX7_less 9 = .ok (.iload_n 1, 1) := by decide +kernel
theorem dX7_less_10 : decode cX7_less 10 = .ok (.ireturn, 1) := by decide +kernel
theorem dX7_more_0 : decode cX7_more 0 = .ok (.iload_n 0, 1) := by decide +kernel
theorem dX7_more_1 : decode cX7_more 1 = .ok (.iload_n 1, 1) := by decide +kernel
theorem dX7_more_2 : decode cX7_more 2 = .ok (.if_icmp .le 7, 3) := by decide +kernel
theorem dX7_more_5 : decode cX7_more 5 = .ok (.iload_n 0, 1) := by decide +kernel
theorem dX7_more_6 : decode cX7_more 6 = .ok (.goto 4, 3) := by decide +kernel
theorem dX7_more_9 : decode cX7_more 9 = .ok (.iload_n 1, 1) := by decide +kernel
theorem dX7_more_10 : decode cX7_more 10 = .ok (.ireturn, 1) := by decide +kernel
theorem dX7_copies_0 : decode cX7_copies 0 = .ok (.iconst 0, 1) := by decide +kernel
theorem dX7_copies_1 : decode cX7_copies 1 = .ok (.istore 4, 2) := by decide +kernel
theorem dX7_copies_3 : decode cX7_copies 3 = .ok (.iload 4, 2) := by decide +kernel
theorem dX7_copies_5 : decode cX7_copies 5 = .ok (.sipush 275, 3) := by decide +kernel
theorem dX7_copies_8 : decode cX7_copies 8 = .ok (.if_icmp .ge 21, 3) := by decide +kernel
theorem dX7_copies_11 : decode cX7_copies 11 = .ok (.aload_n 2, 1) := by decide +kernel
theorem dX7_copies_12 : decode cX7_copies 12 = .ok (.iload_n 3, 1) := by decide +kernel
theorem dX7_copies_13 : decode cX7_copies 13 = .ok (.iload 4, 2) := by decide +kernel
theorem dX7_copies_15 : decode cX7_copies 15 = .ok (.iadd, 1) := by decide +kernel
theorem dX7_copies_16 : decode cX7_copies 16 = .ok (.aload_n 0, 1) := by decide +kernel
theorem dX7_copies_17 : decode cX7_copies 17 = .ok (.iload_n 1, 1) := by decide +kernel
theorem dX7_copies_18 : decode cX7_copies 18 = .ok (.iload 4, 2) := by decide +kernel
theorem dX7_copies_20 : decode cX7_copies 20 = .ok (.iadd, 1) := by decide +kernel
theorem dX7_copies_21 : decode cX7_copies 21 = .ok (.iaload, 1) := by decide +kernel
theorem dX7_copies_22 : decode cX7_copies 22 = .ok (.iastore, 1) := by decide +kernel
theorem dX7_copies_23 : decode cX7_copies 23 = .ok (.iinc 4 1, 3) := by decide +kernel
theorem dX7_copies_26 : decode cX7_copies 26 = .ok (.goto (-23), 3) := by decide +kernel
theorem dX7_copies_29 : decode cX7_copies 29 = .ok (.return_, 1) := by decide +kernel
theorem dX7_keeps_0 : decode cX7_keeps 0 = .ok (.aload_n 0, 1) := by decide +kernel
theorem dX7_keeps_1 : decode cX7_keeps 1 = .ok (.getfield 48, 3) := by decide +kernel
theorem dX7_keeps_4 : decode cX7_keeps 4 = .ok (.ifCond .eq 4, 3) := by decide +kernel
theorem dX7_keeps_7 : decode cX7_keeps 7 = .ok (.return_, 1) := by decide +kernel
theorem dX7_keeps_8 : decode cX7_keeps 8 = .ok (.aload_n 0, 1) := by decide +kernel
theorem dX7_keeps_9 : decode cX7_keeps 9 = .ok (.getfield 51, 3) := by decide +kernel
theorem dX7_keeps_12 : decode cX7_keeps 12 = .ok (.bipush 8, 2) := by decide +kernel
theorem dX7_keeps_14 : decode cX7_keeps 14 = .ok (.if_icmp .ne 44, 3) := by decide +kernel
theorem dX7_keeps_17 : decode cX7_keeps 17 = .ok (.iconst 0, 1) := by decide +kernel
theorem dX7_keeps_18 : decode cX7_keeps 18 = .ok (.istore_n 2, 1) := by decide +kernel
theorem dX7_keeps_19 : decode cX7_keeps 19 = .ok (.iload_n 2, 1) := by decide +kernel
theorem dX7_keeps_20 : decode cX7_keeps 20 = .ok (.sipush 1925, 3) := by decide +kernel
theorem dX7_keeps_23 : decode cX7_keeps 23 = .ok (.if_icmp .ge 25, 3) := by decide +kernel
theorem dX7_keeps_26 : decode cX7_keeps 26 = .ok (.aload_n 0, 1) := by decide +kernel
theorem dX7_keeps_27 : decode cX7_keeps 27 = .ok (.getfield 13, 3) := by decide +kernel
theorem dX7_keeps_30 : decode cX7_keeps 30 = .ok (.iload_n 2, 1) := by decide +kernel
theorem dX7_keeps_31 : decode cX7_keeps 31 = .ok (.aload_n 0, 1) := by decide +kernel
theorem dX7_keeps_32 : decode cX7_keeps 32 = .ok (.getfield 13, 3) := by decide +kernel
theorem dX7_keeps_35 : decode cX7_keeps 35 = .ok (.iload_n 2, 1) := by decide +kernel
theorem dX7_keeps_36 : decode cX7_keeps 36 = .ok (.sipush 275, 3) := by decide +kernel
theorem dX7_keeps_39 : decode cX7_keeps 39 = .ok (.iadd, 1) := by decide +kernel
theorem dX7_keeps_40 : decode cX7_keeps 40 = .ok (.iaload, 1) := by decide +kernel
theorem dX7_keeps_41 : decode cX7_keeps 41 = .ok (.iastore, 1) := by decide +kernel
theorem dX7_keeps_42 : decode cX7_keeps 42 = .ok (.iinc 2 1, 3) := by decide +kernel
theorem dX7_keeps_45 : decode cX7_keeps 45 = .ok (.goto (-26), 3) := by decide +kernel
theorem dX7_keeps_48 : decode cX7_keeps 48 = .ok (.aload_n 0, 1) := by decide +kernel
theorem dX7_keeps_49 : decode cX7_keeps 49 = .ok (.dup, 1) := by decide +kernel
theorem dX7_keeps_50 : decode cX7_keeps 50 = .ok (.getfield 51, 3) := by decide +kernel
theorem dX7_keeps_53 : decode cX7_keeps 53 = .ok (.iconst 1, 1) := by decide +kernel
theorem dX7_keeps_54 : decode cX7_keeps 54 = .ok (.isub, 1) := by decide +kernel
theorem dX7_keeps_55 : decode cX7_keeps 55 = .ok (.putfield 51, 3) := by decide +kernel
theorem dX7_keeps_58 : decode cX7_keeps 58 = .ok (.aload_n 1, 1) := by decide +kernel
theorem dX7_keeps_59 : decode cX7_keeps 59 = .ok (.iconst 0, 1) := by decide +kernel
theorem dX7_keeps_60 : decode cX7_keeps 60 = .ok (.aload_n 0, 1) := by decide +kernel
theorem dX7_keeps_61 : decode cX7_keeps 61 = .ok (.getfield 13, 3) := by decide +kernel
theorem dX7_keeps_64 : decode cX7_keeps 64 = .ok (.sipush 275, 3) := by decide +kernel
theorem dX7_keeps_67 : decode cX7_keeps 67 = .ok (.aload_n 0, 1) := by decide +kernel
theorem dX7_keeps_68 : decode cX7_keeps 68 = .ok (.getfield 51, 3) := by decide +kernel
theorem dX7_keeps_71 : decode cX7_keeps 71 = .ok (.imul, 1) := by decide +kernel
theorem dX7_keeps_72 : decode cX7_keeps 72 = .ok (.invokestatic 54, 3) := by decide +kernel
theorem dX7_keeps_75 : decode cX7_keeps 75 = .ok (.aload_n 0, 1) := by decide +kernel
theorem dX7_keeps_76 : decode cX7_keeps 76 = .ok (.dup, 1) := by decide +kernel
theorem dX7_keeps_77 : decode cX7_keeps 77 = .ok (.getfield 51, 3) := by decide +kernel
theorem dX7_keeps_80 : decode cX7_keeps 80 = .ok (.iconst 1, 1) := by decide +kernel
theorem dX7_keeps_81 : decode cX7_keeps 81 = .ok (.iadd, 1) := by decide +kernel
theorem dX7_keeps_82 : decode cX7_keeps 82 = .ok (.putfield 51, 3) := by decide +kernel
theorem dX7_keeps_85 : decode cX7_keeps 85 = .ok (.return_, 1) := by decide +kernel
theorem dX7_isHour_0 : decode cX7_isHour 0 = .ok (.iload_n 0, 1) := by decide +kernel
theorem dX7_isHour_1 : decode cX7_isHour 1 = .ok (.iconst 0, 1) := by decide +kernel
theorem dX7_isHour_2 : decode cX7_isHour 2 = .ok (.bipush 23, 2) := by decide +kernel
theorem dX7_isHour_4 : decode cX7_isHour 4 = .ok (.invokestatic 58, 3) := by decide +kernel
theorem dX7_isHour_7 : decode cX7_isHour 7 = .ok (.ireturn, 1) := by decide +kernel
theorem dX7_isPitch_0 : decode cX7_isPitch 0 = .ok (.iload_n 1, 1) := by decide +kernel
theorem dX7_isPitch_1 : decode cX7_isPitch 1 = .ok (.iconst 0, 1) := by decide +kernel
theorem dX7_isPitch_2 : decode cX7_isPitch 2 = .ok (.aload_n 0, 1) := by decide +kernel
theorem dX7_isPitch_3 : decode cX7_isPitch 3 = .ok (.getfield 7, 3) := by decide +kernel
theorem dX7_isPitch_6 : decode cX7_isPitch 6 = .ok (.bipush 50, 2) := by decide +kernel
theorem dX7_isPitch_8 : decode cX7_isPitch 8 = .ok (.iaload, 1) := by decide +kernel
theorem dX7_isPitch_9 : decode cX7_isPitch 9 = .ok (.iconst 1, 1) := by decide +kernel
theorem dX7_isPitch_10 : decode cX7_isPitch 10 = .ok (.isub, 1) := by decide +kernel
theorem dX7_isPitch_11 : decode cX7_isPitch 11 = .ok (.invokestatic 58, 3) := by decide +kernel
theorem dX7_isPitch_14 : decode cX7_isPitch 14 = .ok (.ireturn, 1) := by decide +kernel
theorem dX7_isHorse_0 : decode cX7_isHorse 0 = .ok (.iload_n 1, 1) := by decide +kernel
theorem dX7_isHorse_1 : decode cX7_isHorse 1 = .ok (.iconst 0, 1) := by decide +kernel
theorem dX7_isHorse_2 : decode cX7_isHorse 2 = .ok (.aload_n 0, 1) := by decide +kernel
theorem dX7_isHorse_3 : decode cX7_isHorse 3 = .ok (.getfield 7, 3) := by decide +kernel
theorem dX7_isHorse_6 : decode cX7_isHorse 6 = .ok (.bipush 71, 2) := by decide +kernel
theorem dX7_isHorse_8 : decode cX7_isHorse 8 = .ok (.iaload, 1) := by decide +kernel
theorem dX7_isHorse_9 : decode cX7_isHorse 9 = .ok (.iconst 1, 1) := by decide +kernel
theorem dX7_isHorse_10 : decode cX7_isHorse 10 = .ok (.isub, 1) := by decide +kernel
theorem dX7_isHorse_11 : decode cX7_isHorse 11 = .ok (.invokestatic 58, 3) := by decide +kernel
theorem dX7_isHorse_14 : decode cX7_isHorse 14 = .ok (.ireturn, 1) := by decide +kernel
theorem dX7_isUmpire_0 : decode cX7_isUmpire 0 = .ok (.iload_n 1, 1) := by decide +kernel
theorem dX7_isUmpire_1 : decode cX7_isUmpire 1 = .ok (.iconst 0, 1) := by decide +kernel
theorem dX7_isUmpire_2 : decode cX7_isUmpire 2 = .ok (.aload_n 0, 1) := by decide +kernel
theorem dX7_isUmpire_3 : decode cX7_isUmpire 3 = .ok (.getfield 7, 3) := by decide +kernel
theorem dX7_isUmpire_6 : decode cX7_isUmpire 6 = .ok (.bipush 102, 2) := by decide +kernel
theorem dX7_isUmpire_8 : decode cX7_isUmpire 8 = .ok (.iaload, 1) := by decide +kernel
theorem dX7_isUmpire_9 : decode cX7_isUmpire 9 = .ok (.iconst 1, 1) := by decide +kernel
theorem dX7_isUmpire_10 : decode cX7_isUmpire 10 = .ok (.isub, 1) := by decide +kernel
theorem dX7_isUmpire_11 : decode cX7_isUmpire 11 = .ok (.invokestatic 58, 3) := by decide +kernel
theorem dX7_isUmpire_14 : decode cX7_isUmpire 14 = .ok (.ireturn, 1) := by decide +kernel
theorem dX7_isInnings_0 : decode cX7_isInnings 0 = .ok (.iload_n 1, 1) := by decide +kernel
theorem dX7_isInnings_1 : decode cX7_isInnings 1 = .ok (.iconst 0, 1) := by decide +kernel
theorem dX7_isInnings_2 : decode cX7_isInnings 2 = .ok (.aload_n 0, 1) := by decide +kernel
theorem dX7_isInnings_3 : decode cX7_isInnings 3 = .ok (.getfield 7, 3) := by decide +kernel
theorem dX7_isInnings_6 : decode cX7_isInnings 6 = .ok (.bipush 106, 2) := by decide +kernel
theorem dX7_isInnings_8 : decode cX7_isInnings 8 = .ok (.iaload, 1) := by decide +kernel
theorem dX7_isInnings_9 : decode cX7_isInnings 9 = .ok (.iconst 1, 1) := by decide +kernel
theorem dX7_isInnings_10 : decode cX7_isInnings 10 = .ok (.isub, 1) := by decide +kernel
theorem dX7_isInnings_11 : decode cX7_isInnings 11 = .ok (.invokestatic 58, 3) := by decide +kernel
theorem dX7_isInnings_14 : decode cX7_isInnings 14 = .ok (.ireturn, 1) := by decide +kernel
theorem dX7_of_0 : decode cX7_of 0 = .ok (.aload_n 0, 1) := by decide +kernel
theorem dX7_of_1 : decode cX7_of 1 = .ok (.getfield 7, 3) := by decide +kernel
theorem dX7_of_4 : decode cX7_of 4 = .ok (.bipush 51, 2) := by decide +kernel
theorem dX7_of_6 : decode cX7_of 6 = .ok (.iconst 5, 1) := by decide +kernel
theorem dX7_of_7 : decode cX7_of 7 = .ok (.iload_n 1, 1) := by decide +kernel
theorem dX7_of_8 : decode cX7_of 8 = .ok (.imul, 1) := by decide +kernel
theorem dX7_of_9 : decode cX7_of 9 = .ok (.iadd, 1) := by decide +kernel
theorem dX7_of_10 : decode cX7_of 10 = .ok (.iload_n 2, 1) := by decide +kernel
theorem dX7_of_11 : decode cX7_of 11 = .ok (.iadd, 1) := by decide +kernel
theorem dX7_of_12 : decode cX7_of 12 = .ok (.iaload, 1) := by decide +kernel
theorem dX7_of_13 : decode cX7_of 13 = .ok (.ireturn, 1) := by decide +kernel
theorem dX7_lays_0 : decode cX7_lays 0 = .ok (.aload_n 0, 1) := by decide +kernel
theorem dX7_lays_1 : decode cX7_lays 1 = .ok (.getfield 7, 3) := by decide +kernel
theorem dX7_lays_4 : decode cX7_lays 4 = .ok (.bipush 51, 2) := by decide +kernel
theorem dX7_lays_6 : decode cX7_lays 6 = .ok (.iconst 5, 1) := by decide +kernel
theorem dX7_lays_7 : decode cX7_lays 7 = .ok (.iload_n 1, 1) := by decide +kernel
theorem dX7_lays_8 : decode cX7_lays 8 = .ok (.imul, 1) := by decide +kernel
theorem dX7_lays_9 : decode cX7_lays 9 = .ok (.iadd, 1) := by decide +kernel
theorem dX7_lays_10 : decode cX7_lays 10 = .ok (.iload_n 2, 1) := by decide +kernel
theorem dX7_lays_11 : decode cX7_lays 11 = .ok (.iadd, 1) := by decide +kernel
theorem dX7_lays_12 : decode cX7_lays 12 = .ok (.iload_n 3, 1) := by decide +kernel
theorem dX7_lays_13 : decode cX7_lays 13 = .ok (.iastore, 1) := by decide +kernel
theorem dX7_lays_14 : decode cX7_lays 14 = .ok (.return_, 1) := by decide +kernel
theorem dX7_ofHorse_0 : decode cX7_ofHorse 0 = .ok (.aload_n 0, 1) := by decide +kernel
theorem dX7_ofHorse_1 : decode cX7_ofHorse 1 = .ok (.getfield 7, 3) := by decide +kernel
theorem dX7_ofHorse_4 : decode cX7_ofHorse 4 = .ok (.bipush 72, 2) := by decide +kernel
theorem dX7_ofHorse_6 : decode cX7_ofHorse 6 = .ok (.bipush 6, 2) := by decide +kernel
theorem dX7_ofHorse_8 : decode cX7_ofHorse 8 = .ok (.iload_n 1, 1) := by decide +kernel
theorem dX7_ofHorse_9 : decode cX7_ofHorse 9 = .ok (.imul, 1) := by decide +kernel
theorem dX7_ofHorse_10 : decode cX7_ofHorse 10 = .ok (.iadd, 1) := by decide +kernel
theorem dX7_ofHorse_11 : decode cX7_ofHorse 11 = .ok (.iload_n 2, 1) := by decide +kernel
theorem dX7_ofHorse_12 : decode cX7_ofHorse 12 = .ok (.iadd, 1) := by decide +kernel
theorem dX7_ofHorse_13 : decode cX7_ofHorse 13 = .ok (.iaload, 1) := by decide +kernel
theorem dX7_ofHorse_14 : decode cX7_ofHorse 14 = .ok (.ireturn, 1) := by decide +kernel
theorem dX7_laysHorse_0 : decode cX7_laysHorse 0 = .ok (.aload_n 0, 1) := by decide +kernel
theorem dX7_laysHorse_1 : decode cX7_laysHorse 1 = .ok (.getfield 7, 3) := by decide +kernel
theorem dX7_laysHorse_4 : decode cX7_laysHorse 4 = .ok (.bipush 72, 2) := by decide +kernel
theorem dX7_laysHorse_6 : decode cX7_laysHorse 6 = .ok (.bipush 6, 2) := by decide +kernel
theorem dX7_laysHorse_8 : decode cX7_laysHorse 8 = .ok (.iload_n 1, 1) := by decide +kernel
theorem dX7_laysHorse_9 : decode cX7_laysHorse 9 = .ok (.imul, 1) := by decide +kernel
theorem dX7_laysHorse_10 : decode cX7_laysHorse 10 = .ok (.iadd, 1) := by decide +kernel
theorem dX7_laysHorse_11 : decode cX7_laysHorse 11 = .ok (.iload_n 2, 1) := by decide +kernel
theorem dX7_laysHorse_12 : decode cX7_laysHorse 12 = .ok (.iadd, 1) := by decide +kernel
theorem dX7_laysHorse_13 : decode cX7_laysHorse 13 = .ok (.iload_n 3, 1) := by decide +kernel
theorem dX7_laysHorse_14 : decode cX7_laysHorse 14 = .ok (.iastore, 1) := by decide +kernel
theorem dX7_laysHorse_15 : decode cX7_laysHorse 15 = .ok (.return_, 1) := by decide +kernel
theorem dX7_ofInnings_0 : decode cX7_ofInnings 0 = .ok (.aload_n 0, 1) := by decide +kernel
theorem dX7_ofInnings_1 : decode cX7_ofInnings 1 = .ok (.getfield 7, 3) := by decide +kernel
theorem dX7_ofInnings_4 : decode cX7_ofInnings 4 = .ok (.bipush 107, 2) := by decide +kernel
theorem dX7_ofInnings_6 : decode cX7_ofInnings 6 = .ok (.bipush 14, 2) := by decide +kernel
theorem dX7_ofInnings_8 : decode cX7_ofInnings 8 = .ok (.iload_n 1, 1) := by decide +kernel
theorem dX7_ofInnings_9 : decode cX7_ofInnings 9 = .ok (.imul, 1) := by decide +kernel
theorem dX7_ofInnings_10 : decode cX7_ofInnings 10 = .ok (.iadd, 1) := by decide +kernel
theorem dX7_ofInnings_11 : decode cX7_ofInnings 11 = .ok (.iload_n 2, 1) := by decide +kernel
theorem dX7_ofInnings_12 : decode cX7_ofInnings 12 = .ok (.iadd, 1) := by decide +kernel
theorem dX7_ofInnings_13 : decode cX7_ofInnings 13 = .ok (.iaload, 1) := by decide +kernel
theorem dX7_ofInnings_14 : decode cX7_ofInnings 14 = .ok (.ireturn, 1) := by decide +kernel
theorem dX7_laysInnings_0 : decode cX7_laysInnings 0 = .ok (.aload_n 0, 1) := by decide +kernel
theorem dX7_laysInnings_1 : decode cX7_laysInnings 1 = .ok (.getfield 7, 3) := by decide +kernel
theorem dX7_laysInnings_4 : decode cX7_laysInnings 4 = .ok (.bipush 107, 2) := by decide +kernel
theorem dX7_laysInnings_6 : decode cX7_laysInnings 6 = .ok (.bipush 14, 2) := by decide +kernel
theorem dX7_laysInnings_8 : decode cX7_laysInnings 8 = .ok (.iload_n 1, 1) := by decide +kernel
theorem dX7_laysInnings_9 : decode cX7_laysInnings 9 = .ok (.imul, 1) := by decide +kernel
theorem dX7_laysInnings_10 : decode cX7_laysInnings 10 = .ok (.iadd, 1) := by decide +kernel
theorem dX7_laysInnings_11 : decode cX7_laysInnings 11 = .ok (.iload_n 2, 1) := by decide +kernel
theorem dX7_laysInnings_12 : decode cX7_laysInnings 12 = .ok (.iadd, 1) := by decide +kernel
theorem dX7_laysInnings_13 : decode cX7_laysInnings 13 = .ok (.iload_n 3, 1) := by decide +kernel
theorem dX7_laysInnings_14 : decode cX7_laysInnings 14 = .ok (.iastore, 1) := by decide +kernel
theorem dX7_laysInnings_15 : decode cX7_laysInnings 15 = .ok (.return_, 1) := by decide +kernel
theorem dX7_hourOfDay_0 : decode cX7_hourOfDay 0 = .ok (.aload_n 0, 1) := by decide +kernel
theorem dX7_hourOfDay_1 : decode cX7_hourOfDay 1 = .ok (.getfield 7, 3) := by decide +kernel
theorem dX7_hourOfDay_4 : decode cX7_hourOfDay 4 = .ok (.iconst 0, 1) := by decide +kernel
theorem dX7_hourOfDay_5 : decode cX7_hourOfDay 5 = .ok (.iaload, 1) := by decide +kernel
theorem dX7_hourOfDay_6 : decode cX7_hourOfDay 6 = .ok (.bipush 24, 2) := by decide +kernel
theorem dX7_hourOfDay_8 : decode cX7_hourOfDay 8 = .ok (.irem, 1) := by decide +kernel
theorem dX7_hourOfDay_9 : decode cX7_hourOfDay 9 = .ok (.ireturn, 1) := by decide +kernel
theorem dX7_sets_0 : decode cX7_sets 0 = .ok (.aload_n 0, 1) := by decide +kernel
theorem dX7_sets_1 : decode cX7_sets 1 = .ok (.aload_n 0, 1) := by decide +kernel
theorem dX7_sets_2 : decode cX7_sets 2 = .ok (.getfield 7, 3) := by decide +kernel
theorem dX7_sets_5 : decode cX7_sets 5 = .ok (.invokevirtual 62, 3) := by decide +kernel
theorem dX7_sets_8 : decode cX7_sets 8 = .ok (.aload_n 0, 1) := by decide +kernel
theorem dX7_sets_9 : decode cX7_sets 9 = .ok (.getfield 7, 3) := by decide +kernel
theorem dX7_sets_12 : decode cX7_sets 12 = .ok (.iload_n 1, 1) := by decide +kernel
theorem dX7_sets_13 : decode cX7_sets 13 = .ok (.iaload, 1) := by decide +kernel
theorem dX7_sets_14 : decode cX7_sets 14 = .ok (.istore_n 3, 1) := by decide +kernel
theorem dX7_sets_15 : decode cX7_sets 15 = .ok (.aload_n 0, 1) := by decide +kernel
theorem dX7_sets_16 : decode cX7_sets 16 = .ok (.getfield 7, 3) := by decide +kernel
theorem dX7_sets_19 : decode cX7_sets 19 = .ok (.iload_n 1, 1) := by decide +kernel
theorem dX7_sets_20 : decode cX7_sets 20 = .ok (.iload_n 2, 1) := by decide +kernel
theorem dX7_sets_21 : decode cX7_sets 21 = .ok (.iastore, 1) := by decide +kernel
theorem dX7_sets_22 : decode cX7_sets 22 = .ok (.iload_n 3, 1) := by decide +kernel
theorem dX7_sets_23 : decode cX7_sets 23 = .ok (.ireturn, 1) := by decide +kernel
theorem dX7_rain_0 : decode cX7_rain 0 = .ok (.aload_n 0, 1) := by decide +kernel
theorem dX7_rain_1 : decode cX7_rain 1 = .ok (.iload_n 1, 1) := by decide +kernel
theorem dX7_rain_2 : decode cX7_rain 2 = .ok (.invokestatic 66, 3) := by decide +kernel
theorem dX7_rain_5 : decode cX7_rain 5 = .ok (.ifCond .ne 7, 3) := by decide +kernel
theorem dX7_rain_8 : decode cX7_rain 8 = .ok (.iconst 1, 1) := by decide +kernel
theorem dX7_rain_9 : decode cX7_rain 9 = .ok (.goto 18, 3) := by decide +kernel
theorem dX7_rain_12 : decode cX7_rain 12 = .ok (.iload_n 2, 1) := by decide +kernel
theorem dX7_rain_13 : decode cX7_rain 13 = .ok (.iconst 0, 1) := by decide +kernel
theorem dX7_rain_14 : decode cX7_rain 14 = .ok (.bipush 9, 2) := by decide +kernel
theorem dX7_rain_16 : decode cX7_rain 16 = .ok (.invokestatic 58, 3) := by decide +kernel
theorem dX7_rain_19 : decode cX7_rain 19 = .ok (.ifCond .eq 7, 3) := by decide +kernel
theorem dX7_rain_22 : decode cX7_rain 22 = .ok (.iconst 0, 1) := by decide +kernel
theorem dX7_rain_23 : decode cX7_rain 23 = .ok (.goto 4, 3) := by decide +kernel
theorem dX7_rain_26 : decode cX7_rain 26 = .ok (.iconst 2, 1) := by decide +kernel
theorem dX7_rain_27 : decode cX7_rain 27 = .ok (.invokevirtual 70, 3) := by decide +kernel
theorem dX7_rain_30 : decode cX7_rain 30 = .ok (.ifCond .eq 7, 3) := by decide +kernel
theorem dX7_rain_33 : decode cX7_rain 33 = .ok (.iconst 0, 1) := by decide +kernel
theorem dX7_rain_34 : decode cX7_rain 34 = .ok (.goto 11, 3) := by decide +kernel
theorem dX7_rain_37 : decode cX7_rain 37 = .ok (.aload_n 0, 1) := by decide +kernel
theorem dX7_rain_38 : decode cX7_rain 38 = .ok (.iconst 2, 1) := by decide +kernel
theorem dX7_rain_39 : decode cX7_rain 39 = .ok (.iload_n 1, 1) := by decide +kernel
theorem dX7_rain_40 : decode cX7_rain 40 = .ok (.iadd, 1) := by decide +kernel
theorem dX7_rain_41 : decode cX7_rain 41 = .ok (.iload_n 2, 1) := by decide +kernel
theorem dX7_rain_42 : decode cX7_rain 42 = .ok (.invokevirtual 73, 3) := by decide +kernel
theorem dX7_rain_45 : decode cX7_rain 45 = .ok (.ireturn, 1) := by decide +kernel
theorem dX7_light_0 : decode cX7_light 0 = .ok (.aload_n 0, 1) := by decide +kernel
theorem dX7_light_1 : decode cX7_light 1 = .ok (.iload_n 1, 1) := by decide +kernel
theorem dX7_light_2 : decode cX7_light 2 = .ok (.invokestatic 66, 3) := by decide +kernel
theorem dX7_light_5 : decode cX7_light 5 = .ok (.ifCond .ne 7, 3) := by decide +kernel
theorem dX7_light_8 : decode cX7_light 8 = .ok (.iconst 1, 1) := by decide +kernel
theorem dX7_light_9 : decode cX7_light 9 = .ok (.goto 18, 3) := by decide +kernel
theorem dX7_light_12 : decode cX7_light 12 = .ok (.iload_n 2, 1) := by decide +kernel
theorem dX7_light_13 : decode cX7_light 13 = .ok (.iconst 0, 1) := by decide +kernel
theorem dX7_light_14 : decode cX7_light 14 = .ok (.bipush 9, 2) := by decide +kernel
theorem dX7_light_16 : decode cX7_light 16 = .ok (.invokestatic 58, 3) := by decide +kernel
theorem dX7_light_19 : decode cX7_light 19 = .ok (.ifCond .eq 7, 3) := by decide +kernel
theorem dX7_light_22 : decode cX7_light 22 = .ok (.iconst 0, 1) := by decide +kernel
theorem dX7_light_23 : decode cX7_light 23 = .ok (.goto 4, 3) := by decide +kernel
theorem dX7_light_26 : decode cX7_light 26 = .ok (.iconst 2, 1) := by decide +kernel
theorem dX7_light_27 : decode cX7_light 27 = .ok (.invokevirtual 70, 3) := by decide +kernel
theorem dX7_light_30 : decode cX7_light 30 = .ok (.ifCond .eq 7, 3) := by decide +kernel
theorem dX7_light_33 : decode cX7_light 33 = .ok (.iconst 0, 1) := by decide +kernel
theorem dX7_light_34 : decode cX7_light 34 = .ok (.goto 12, 3) := by decide +kernel
theorem dX7_light_37 : decode cX7_light 37 = .ok (.aload_n 0, 1) := by decide +kernel
theorem dX7_light_38 : decode cX7_light 38 = .ok (.bipush 26, 2) := by decide +kernel
theorem dX7_light_40 : decode cX7_light 40 = .ok (.iload_n 1, 1) := by decide +kernel
theorem dX7_light_41 : decode cX7_light 41 = .ok (.iadd, 1) := by decide +kernel
theorem dX7_light_42 : decode cX7_light 42 = .ok (.iload_n 2, 1) := by decide +kernel
theorem dX7_light_43 : decode cX7_light 43 = .ok (.invokevirtual 73, 3) := by decide +kernel
theorem dX7_light_46 : decode cX7_light 46 = .ok (.ireturn, 1) := by decide +kernel
theorem dX7_bell_0 : decode cX7_bell 0 = .ok (.aload_n 0, 1) := by decide +kernel
theorem dX7_bell_1 : decode cX7_bell 1 = .ok (.iload_n 1, 1) := by decide +kernel
theorem dX7_bell_2 : decode cX7_bell 2 = .ok (.invokestatic 66, 3) := by decide +kernel
theorem dX7_bell_5 : decode cX7_bell 5 = .ok (.ifCond .eq 7, 3) := by decide +kernel
theorem dX7_bell_8 : decode cX7_bell 8 = .ok (.iconst 0, 1) := by decide +kernel
theorem dX7_bell_9 : decode cX7_bell 9 = .ok (.goto 4, 3) := by decide +kernel
theorem dX7_bell_12 : decode cX7_bell 12 = .ok (.iconst 1, 1) := by decide +kernel
theorem dX7_bell_13 : decode cX7_bell 13 = .ok (.invokevirtual 70, 3) := by decide +kernel
theorem dX7_bell_16 : decode cX7_bell 16 = .ok (.ifCond .eq 7, 3) := by decide +kernel
theorem dX7_bell_19 : decode cX7_bell 19 = .ok (.iconst 0, 1) := by decide +kernel
theorem dX7_bell_20 : decode cX7_bell 20 = .ok (.goto 9, 3) := by decide +kernel
theorem dX7_bell_23 : decode cX7_bell 23 = .ok (.aload_n 0, 1) := by decide +kernel
theorem dX7_bell_24 : decode cX7_bell 24 = .ok (.iconst 1, 1) := by decide +kernel
theorem dX7_bell_25 : decode cX7_bell 25 = .ok (.iload_n 1, 1) := by decide +kernel
theorem dX7_bell_26 : decode cX7_bell 26 = .ok (.invokevirtual 73, 3) := by decide +kernel
theorem dX7_bell_29 : decode cX7_bell 29 = .ok (.ireturn, 1) := by decide +kernel
theorem dX7_weather_0 : decode cX7_weather 0 = .ok (.aload_n 0, 1) := by decide +kernel
theorem dX7_weather_1 : decode cX7_weather 1 = .ok (.iload_n 1, 1) := by decide +kernel
theorem dX7_weather_2 : decode cX7_weather 2 = .ok (.invokestatic 66, 3) := by decide +kernel
theorem dX7_weather_5 : decode cX7_weather 5 = .ok (.ifCond .eq 7, 3) := by decide +kernel
theorem dX7_weather_8 : decode cX7_weather 8 = .ok (.iconst 0, 1) := by decide +kernel
theorem dX7_weather_9 : decode cX7_weather 9 = .ok (.goto 4, 3) := by decide +kernel
theorem dX7_weather_12 : decode cX7_weather 12 = .ok (.iconst 1, 1) := by decide +kernel
theorem dX7_weather_13 : decode cX7_weather 13 = .ok (.invokevirtual 70, 3) := by decide +kernel
theorem dX7_weather_16 : decode cX7_weather 16 = .ok (.ifCond .eq 7, 3) := by decide +kernel
theorem dX7_weather_19 : decode cX7_weather 19 = .ok (.iconst 0, 1) := by decide +kernel
theorem dX7_weather_20 : decode cX7_weather 20 = .ok (.goto 20, 3) := by decide +kernel
theorem dX7_weather_23 : decode cX7_weather 23 = .ok (.aload_n 0, 1) := by decide +kernel
theorem dX7_weather_24 : decode cX7_weather 24 = .ok (.getfield 7, 3) := by decide +kernel
theorem dX7_weather_27 : decode cX7_weather 27 = .ok (.iload_n 2, 1) := by decide +kernel
theorem dX7_weather_28 : decode cX7_weather 28 = .ok (.ifCond .eq 8, 3) := by decide +kernel
theorem dX7_weather_31 : decode cX7_weather 31 = .ok (.bipush 26, 2) := by decide +kernel
theorem dX7_weather_33 : decode cX7_weather 33 = .ok (.goto 4, 3) := by decide +kernel
theorem dX7_weather_36 : decode cX7_weather 36 = .ok (.iconst 2, 1) := by decide +kernel
theorem dX7_weather_37 : decode cX7_weather 37 = .ok (.iload_n 1, 1) := by decide +kernel
theorem dX7_weather_38 : decode cX7_weather 38 = .ok (.iadd, 1) := by decide +kernel
theorem dX7_weather_39 : decode cX7_weather 39 = .ok (.iaload, 1) := by decide +kernel
theorem dX7_weather_40 : decode cX7_weather 40 = .ok (.ireturn, 1) := by decide +kernel
theorem dX7_pitch_0 : decode cX7_pitch 0 = .ok (.aload_n 0, 1) := by decide +kernel
theorem dX7_pitch_1 : decode cX7_pitch 1 = .ok (.iconst 0, 1) := by decide +kernel
theorem dX7_pitch_2 : decode cX7_pitch 2 = .ok (.putfield 35, 3) := by decide +kernel
theorem dX7_pitch_5 : decode cX7_pitch 5 = .ok (.aload_n 0, 1) := by decide +kernel
theorem dX7_pitch_6 : decode cX7_pitch 6 = .ok (.getfield 7, 3) := by decide +kernel
theorem dX7_pitch_9 : decode cX7_pitch 9 = .ok (.bipush 50, 2) := by decide +kernel
theorem dX7_pitch_11 : decode cX7_pitch 11 = .ok (.iaload, 1) := by decide +kernel
theorem dX7_pitch_12 : decode cX7_pitch 12 = .ok (.iconst 4, 1) := by decide +kernel
theorem dX7_pitch_13 : decode cX7_pitch 13 = .ok (.if_icmp .ne 11, 3) := by decide +kernel
theorem dX7_pitch_16 : decode cX7_pitch 16 = .ok (.aload_n 0, 1) := by decide +kernel
theorem dX7_pitch_17 : decode cX7_pitch 17 = .ok (.iconst 1, 1) := by decide +kernel
theorem dX7_pitch_18 : decode cX7_pitch 18 = .ok (.iconst 1, 1) := by decide +kernel
theorem dX7_pitch_19 : decode cX7_pitch 19 = .ok (.iconst 4, 1) := by decide +kernel
theorem dX7_pitch_20 : decode cX7_pitch 20 = .ok (.invokevirtual 77, 3) := by decide +kernel
theorem dX7_pitch_23 : decode cX7_pitch 23 = .ok (.ireturn, 1) := by decide +kernel
theorem dX7_pitch_24 : decode cX7_pitch 24 = .ok (.aload_n 0, 1) := by decide +kernel
theorem dX7_pitch_25 : decode cX7_pitch 25 = .ok (.aload_n 0, 1) := by decide +kernel
theorem dX7_pitch_26 : decode cX7_pitch 26 = .ok (.getfield 7, 3) := by decide +kernel
theorem dX7_pitch_29 : decode cX7_pitch 29 = .ok (.invokevirtual 62, 3) := by decide +kernel
theorem dX7_pitch_32 : decode cX7_pitch 32 = .ok (.aload_n 0, 1) := by decide +kernel
theorem dX7_pitch_33 : decode cX7_pitch 33 = .ok (.getfield 7, 3) := by decide +kernel
theorem dX7_pitch_36 : decode cX7_pitch 36 = .ok (.bipush 50, 2) := by decide +kernel
theorem dX7_pitch_38 : decode cX7_pitch 38 = .ok (.iaload, 1) := by decide +kernel
theorem dX7_pitch_39 : decode cX7_pitch 39 = .ok (.istore_n 1, 1) := by decide +kernel
theorem dX7_pitch_40 : decode cX7_pitch 40 = .ok (.aload_n 0, 1) := by decide +kernel
theorem dX7_pitch_41 : decode cX7_pitch 41 = .ok (.getfield 7, 3) := by decide +kernel
theorem dX7_pitch_44 : decode cX7_pitch 44 = .ok (.bipush 50, 2) := by decide +kernel
theorem dX7_pitch_46 : decode cX7_pitch 46 = .ok (.dup2, 1) := by decide +kernel
theorem dX7_pitch_47 : decode cX7_pitch 47 = .ok (.iaload, 1) := by decide +kernel
theorem dX7_pitch_48 : decode cX7_pitch 48 = .ok (.iconst 1, 1) := by decide +kernel
theorem dX7_pitch_49 : decode cX7_pitch 49 = .ok (.iadd, 1) := by decide +kernel
theorem dX7_pitch_50 : decode cX7_pitch 50 = .ok (.iastore, 1) := by decide +kernel
theorem dX7_pitch_51 : decode cX7_pitch 51 = .ok (.iconst 0, 1) := by decide +kernel
theorem dX7_pitch_52 : decode cX7_pitch 52 = .ok (.istore_n 2, 1) := by decide +kernel
theorem dX7_pitch_53 : decode cX7_pitch 53 = .ok (.iload_n 2, 1) := by decide +kernel
theorem dX7_pitch_54 : decode cX7_pitch 54 = .ok (.iconst 5, 1) := by decide +kernel
theorem dX7_pitch_55 : decode cX7_pitch 55 = .ok (.if_icmp .ge 16, 3) := by decide +kernel
theorem dX7_pitch_58 : decode cX7_pitch 58 = .ok (.aload_n 0, 1) := by decide +kernel
theorem dX7_pitch_59 : decode cX7_pitch 59 = .ok (.iload_n 1, 1) := by decide +kernel
theorem dX7_pitch_60 : decode cX7_pitch 60 = .ok (.iload_n 2, 1) := by decide +kernel
theorem dX7_pitch_61 : decode cX7_pitch 61 = .ok (.iconst 0, 1) := by decide +kernel
theorem dX7_pitch_62 : decode cX7_pitch 62 = .ok (.invokevirtual 81, 3) := by decide +kernel
theorem dX7_pitch_65 : decode cX7_pitch 65 = .ok (.iinc 2 1, 3) := by decide +kernel
theorem dX7_pitch_68 : decode cX7_pitch 68 = .ok (.goto (-15), 3) := by decide +kernel
theorem dX7_pitch_71 : decode cX7_pitch 71 = .ok (.aload_n 0, 1) := by decide +kernel
theorem dX7_pitch_72 : decode cX7_pitch 72 = .ok (.iload_n 1, 1) := by decide +kernel
theorem dX7_pitch_73 : decode cX7_pitch 73 = .ok (.iconst 0, 1) := by decide +kernel
theorem dX7_pitch_74 : decode cX7_pitch 74 = .ok (.bipush 20, 2) := by decide +kernel
theorem dX7_pitch_76 : decode cX7_pitch 76 = .ok (.invokevirtual 81, 3) := by decide +kernel
theorem dX7_pitch_79 : decode cX7_pitch 79 = .ok (.aload_n 0, 1) := by decide +kernel
theorem dX7_pitch_80 : decode cX7_pitch 80 = .ok (.iload_n 1, 1) := by decide +kernel
theorem dX7_pitch_81 : decode cX7_pitch 81 = .ok (.iconst 1, 1) := by decide +kernel
theorem dX7_pitch_82 : decode cX7_pitch 82 = .ok (.bipush 10, 2) := by decide +kernel
theorem dX7_pitch_84 : decode cX7_pitch 84 = .ok (.invokevirtual 81, 3) := by decide +kernel
theorem dX7_pitch_87 : decode cX7_pitch 87 = .ok (.iload_n 1, 1) := by decide +kernel
theorem dX7_pitch_88 : decode cX7_pitch 88 = .ok (.ireturn, 1) := by decide +kernel
theorem dX7_rollerOf_0 : decode cX7_rollerOf 0 = .ok (.iconst 0, 1) := by decide +kernel
theorem dX7_rollerOf_1 : decode cX7_rollerOf 1 = .ok (.istore_n 2, 1) := by decide +kernel
theorem dX7_rollerOf_2 : decode cX7_rollerOf 2 = .ok (.iload_n 2, 1) := by decide +kernel
theorem dX7_rollerOf_3 : decode cX7_rollerOf 3 = .ok (.aload_n 0, 1) := by decide +kernel
theorem dX7_rollerOf_4 : decode cX7_rollerOf 4 = .ok (.getfield 7, 3) := by decide +kernel
theorem dX7_rollerOf_7 : decode cX7_rollerOf 7 = .ok (.bipush 71, 2) := by decide +kernel
theorem dX7_rollerOf_9 : decode cX7_rollerOf 9 = .ok (.iaload, 1) := by decide +kernel
theorem dX7_rollerOf_10 : decode cX7_rollerOf 10 = .ok (.if_icmp .ge 30, 3) := by decide +kernel
theorem dX7_rollerOf_13 : decode cX7_rollerOf 13 = .ok (.aload_n 0, 1) := by decide +kernel
theorem dX7_rollerOf_14 : decode cX7_rollerOf 14 = .ok (.iload_n 2, 1) := by decide +kernel
theorem dX7_rollerOf_15 : decode cX7_rollerOf 15 = .ok (.iconst 3, 1) := by decide +kernel
theorem dX7_rollerOf_16 : decode cX7_rollerOf 16 = .ok (.invokevirtual 85, 3) := by decide +kernel
theorem dX7_rollerOf_19 : decode cX7_rollerOf 19 = .ok (.ifCond .le 15, 3) := by decide +kernel
theorem dX7_rollerOf_22 : decode cX7_rollerOf 22 = .ok (.aload_n 0, 1) := by decide +kernel
theorem dX7_rollerOf_23 : decode cX7_rollerOf 23 = .ok (.iload_n 2, 1) := by decide +kernel
theorem dX7_rollerOf_24 : decode cX7_rollerOf 24 = .ok (.iconst 4, 1) := by decide +kernel
theorem dX7_rollerOf_25 : decode cX7_rollerOf 25 = .ok (.invokevirtual 85, 3) := by decide +kernel
theorem dX7_rollerOf_28 : decode cX7_rollerOf 28 = .ok (.iload_n 1, 1) := by decide +kernel
theorem dX7_rollerOf_29 : decode cX7_rollerOf 29 = .ok (.if_icmp .ne 5, 3) := by decide +kernel
theorem dX7_rollerOf_32 : decode cX7_rollerOf 32 = .ok (.iload_n 2, 1) := by decide +kernel
theorem dX7_rollerOf_33 : decode cX7_rollerOf 33 = .ok (.ireturn, 1) := by decide +kernel
theorem dX7_rollerOf_34 : decode cX7_rollerOf 34 = .ok (.iinc 2 1, 3) := by decide +kernel
theorem dX7_rollerOf_37 : decode cX7_rollerOf 37 = .ok (.goto (-35), 3) := by decide +kernel
theorem dX7_rollerOf_40 : decode cX7_rollerOf 40 = .ok (.iconst (-1), 1) := by decide +kernel
theorem dX7_rollerOf_41 : decode cX7_rollerOf 41 = .ok (.ireturn, 1) := by decide +kernel
theorem dX7_openOn_0 : decode cX7_openOn 0 = .ok (.iconst 0, 1) := by decide +kernel
theorem dX7_openOn_1 : decode cX7_openOn 1 = .ok (.istore_n 2, 1) := by decide +kernel
theorem dX7_openOn_2 : decode cX7_openOn 2 = .ok (.iload_n 2, 1) := by decide +kernel
theorem dX7_openOn_3 : decode cX7_openOn 3 = .ok (.aload_n 0, 1) := by decide +kernel
theorem dX7_openOn_4 : decode cX7_openOn 4 = .ok (.getfield 7, 3) := by decide +kernel
theorem dX7_openOn_7 : decode cX7_openOn 7 = .ok (.bipush 106, 2) := by decide +kernel
theorem dX7_openOn_9 : decode cX7_openOn 9 = .ok (.iaload, 1) := by decide +kernel
theorem dX7_openOn_10 : decode cX7_openOn 10 = .ok (.if_icmp .ge 31, 3) := by decide +kernel
theorem dX7_openOn_13 : decode cX7_openOn 13 = .ok (.aload_n 0, 1) := by decide +kernel
theorem dX7_openOn_14 : decode cX7_openOn 14 = .ok (.iload_n 2, 1) := by decide +kernel
theorem dX7_openOn_15 : decode cX7_openOn 15 = .ok (.bipush 6, 2) := by decide +kernel
theorem dX7_openOn_17 : decode cX7_openOn 17 = .ok (.invokevirtual 88, 3) := by decide +kernel
theorem dX7_openOn_20 : decode cX7_openOn 20 = .ok (.ifCond .ne 15, 3) := by decide +kernel
theorem dX7_openOn_23 : decode cX7_openOn 23 = .ok (.aload_n 0, 1) := by decide +kernel
theorem dX7_openOn_24 : decode cX7_openOn 24 = .ok (.iload_n 2, 1) := by decide +kernel
theorem dX7_openOn_25 : decode cX7_openOn 25 = .ok (.iconst 0, 1) := by decide +kernel
theorem dX7_openOn_26 : decode cX7_openOn 26 = .ok (.invokevirtual 88, 3) := by decide +kernel
theorem dX7_openOn_29 : decode cX7_openOn 29 = .ok (.iload_n 1, 1) := by decide +kernel
theorem dX7_openOn_30 : decode cX7_openOn 30 = .ok (.if_icmp .ne 5, 3) := by decide +kernel
theorem dX7_openOn_33 : decode cX7_openOn 33 = .ok (.iload_n 2, 1) := by decide +kernel
theorem dX7_openOn_34 : decode cX7_openOn 34 = .ok (.ireturn, 1) := by decide +kernel
theorem dX7_openOn_35 : decode cX7_openOn 35 = .ok (.iinc 2 1, 3) := by decide +kernel
theorem dX7_openOn_38 : decode cX7_openOn 38 = .ok (.goto (-36), 3) := by decide +kernel
theorem dX7_openOn_41 : decode cX7_openOn 41 = .ok (.iconst (-1), 1) := by decide +kernel
theorem dX7_openOn_42 : decode cX7_openOn 42 = .ok (.ireturn, 1) := by decide +kernel
theorem dX7_cover_0 : decode cX7_cover 0 = .ok (.aload_n 0, 1) := by decide +kernel
theorem dX7_cover_1 : decode cX7_cover 1 = .ok (.aload_n 0, 1) := by decide +kernel
theorem dX7_cover_2 : decode cX7_cover 2 = .ok (.iload_n 1, 1) := by decide +kernel
theorem dX7_cover_3 : decode cX7_cover 3 = .ok (.invokevirtual 91, 3) := by decide +kernel
theorem dX7_cover_6 : decode cX7_cover 6 = .ok (.ifCond .eq 7, 3) := by decide +kernel
theorem dX7_cover_9 : decode cX7_cover 9 = .ok (.iconst 0, 1) := by decide +kernel
theorem dX7_cover_10 : decode cX7_cover 10 = .ok (.goto 4, 3) := by decide +kernel
theorem dX7_cover_13 : decode cX7_cover 13 = .ok (.iconst 1, 1) := by decide +kernel
theorem dX7_cover_14 : decode cX7_cover 14 = .ok (.invokevirtual 70, 3) := by decide +kernel
theorem dX7_cover_17 : decode cX7_cover 17 = .ok (.ifCond .eq 5, 3) := by decide +kernel
theorem dX7_cover_20 : decode cX7_cover 20 = .ok (.iconst 0, 1) := by decide +kernel
theorem dX7_cover_21 : decode cX7_cover 21 = .ok (.ireturn, 1) := by decide +kernel
theorem dX7_cover_22 : decode cX7_cover 22 = .ok (.iload_n 2, 1) := by decide +kernel
theorem dX7_cover_23 : decode cX7_cover 23 = .ok (.ifCond .eq 23, 3) := by decide +kernel
theorem dX7_cover_26 : decode cX7_cover 26 = .ok (.aload_n 0, 1) := by decide +kernel
theorem dX7_cover_27 : decode cX7_cover 27 = .ok (.iload_n 1, 1) := by decide +kernel
theorem dX7_cover_28 : decode cX7_cover 28 = .ok (.invokevirtual 94, 3) := by decide +kernel
theorem dX7_cover_31 : decode cX7_cover 31 = .ok (.ifCond .lt 15, 3) := by decide +kernel
theorem dX7_cover_34 : decode cX7_cover 34 = .ok (.aload_n 0, 1) := by decide +kernel
theorem dX7_cover_35 : decode cX7_cover 35 = .ok (.iconst 2, 1) := by decide +kernel
theorem dX7_cover_36 : decode cX7_cover 36 = .ok (.iconst 4, 1) := by decide +kernel
theorem dX7_cover_37 : decode cX7_cover 37 = .ok (.aload_n 0, 1) := by decide +kernel
theorem dX7_cover_38 : decode cX7_cover 38 = .ok (.iload_n 1, 1) := by decide +kernel
theorem dX7_cover_39 : decode cX7_cover 39 = .ok (.invokevirtual 94, 3) := by decide +kernel
theorem dX7_cover_42 : decode cX7_cover 42 = .ok (.invokevirtual 77, 3) := by decide +kernel
theorem dX7_cover_45 : decode cX7_cover 45 = .ok (.ireturn, 1) := by decide +kernel
theorem dX7_cover_46 : decode cX7_cover 46 = .ok (.aload_n 0, 1) := by decide +kernel
theorem dX7_cover_47 : decode cX7_cover 47 = .ok (.aload_n 0, 1) := by decide +kernel
theorem dX7_cover_48 : decode cX7_cover 48 = .ok (.getfield 7, 3) := by decide +kernel
theorem dX7_cover_51 : decode cX7_cover 51 = .ok (.invokevirtual 62, 3) := by decide +kernel
theorem dX7_cover_54 : decode cX7_cover 54 = .ok (.aload_n 0, 1) := by decide +kernel
theorem dX7_cover_55 : decode cX7_cover 55 = .ok (.iload_n 1, 1) := by decide +kernel
theorem dX7_cover_56 : decode cX7_cover 56 = .ok (.iconst 3, 1) := by decide +kernel
theorem dX7_cover_57 : decode cX7_cover 57 = .ok (.iload_n 2, 1) := by decide +kernel
theorem dX7_cover_58 : decode cX7_cover 58 = .ok (.ifCond .eq 7, 3) := by decide +kernel
theorem dX7_cover_61 : decode cX7_cover 61 = .ok (.iconst 1, 1) := by decide +kernel
theorem dX7_cover_62 : decode cX7_cover 62 = .ok (.goto 4, 3) := by decide +kernel
theorem dX7_cover_65 : decode cX7_cover 65 = .ok (.iconst 0, 1) := by decide +kernel
theorem dX7_cover_66 : decode cX7_cover 66 = .ok (.invokevirtual 81, 3) := by decide +kernel
theorem dX7_cover_69 : decode cX7_cover 69 = .ok (.aload_n 0, 1) := by decide +kernel
theorem dX7_cover_70 : decode cX7_cover 70 = .ok (.iload_n 1, 1) := by decide +kernel
theorem dX7_cover_71 : decode cX7_cover 71 = .ok (.iconst 0, 1) := by decide +kernel
theorem dX7_cover_72 : decode cX7_cover 72 = .ok (.invokevirtual 98, 3) := by decide +kernel
theorem dX7_cover_75 : decode cX7_cover 75 = .ok (.ireturn, 1) := by decide +kernel
theorem dX7_pitchOf_0 : decode cX7_pitchOf 0 = .ok (.aload_n 0, 1) := by decide +kernel
theorem dX7_pitchOf_1 : decode cX7_pitchOf 1 = .ok (.aload_n 0, 1) := by decide +kernel
theorem dX7_pitchOf_2 : decode cX7_pitchOf 2 = .ok (.iload_n 1, 1) := by decide +kernel
theorem dX7_pitchOf_3 : decode cX7_pitchOf 3 = .ok (.invokevirtual 91, 3) := by decide +kernel
theorem dX7_pitchOf_6 : decode cX7_pitchOf 6 = .ok (.ifCond .ne 7, 3) := by decide +kernel
theorem dX7_pitchOf_9 : decode cX7_pitchOf 9 = .ok (.iconst 1, 1) := by decide +kernel
theorem dX7_pitchOf_10 : decode cX7_pitchOf 10 = .ok (.goto 18, 3) := by decide +kernel
theorem dX7_pitchOf_13 : decode cX7_pitchOf 13 = .ok (.iload_n 2, 1) := by decide +kernel
theorem dX7_pitchOf_14 : decode cX7_pitchOf 14 = .ok (.iconst 0, 1) := by decide +kernel
theorem dX7_pitchOf_15 : decode cX7_pitchOf 15 = .ok (.bipush 6, 2) := by decide +kernel
theorem dX7_pitchOf_17 : decode cX7_pitchOf 17 = .ok (.invokestatic 58, 3) := by decide +kernel
theorem dX7_pitchOf_20 : decode cX7_pitchOf 20 = .ok (.ifCond .eq 7, 3) := by decide +kernel
theorem dX7_pitchOf_23 : decode cX7_pitchOf 23 = .ok (.iconst 0, 1) := by decide +kernel
theorem dX7_pitchOf_24 : decode cX7_pitchOf 24 = .ok (.goto 4, 3) := by decide +kernel
theorem dX7_pitchOf_27 : decode cX7_pitchOf 27 = .ok (.iconst 2, 1) := by decide +kernel
theorem dX7_pitchOf_28 : decode cX7_pitchOf 28 = .ok (.invokevirtual 70, 3) := by decide +kernel
theorem dX7_pitchOf_31 : decode cX7_pitchOf 31 = .ok (.ifCond .eq 5, 3) := by decide +kernel
theorem dX7_pitchOf_34 : decode cX7_pitchOf 34 = .ok (.iconst 0, 1) := by decide +kernel
theorem dX7_pitchOf_35 : decode cX7_pitchOf 35 = .ok (.ireturn, 1) := by decide +kernel
theorem dX7_pitchOf_36 : decode cX7_pitchOf 36 = .ok (.iload_n 2, 1) := by decide +kernel
theorem dX7_pitchOf_37 : decode cX7_pitchOf 37 = .ok (.iconst 4, 1) := by decide +kernel
theorem dX7_pitchOf_38 : decode cX7_pitchOf 38 = .ok (.if_icmp .ge 12, 3) := by decide +kernel
theorem dX7_pitchOf_41 : decode cX7_pitchOf 41 = .ok (.aload_n 0, 1) := by decide +kernel
theorem dX7_pitchOf_42 : decode cX7_pitchOf 42 = .ok (.iload_n 1, 1) := by decide +kernel
theorem dX7_pitchOf_43 : decode cX7_pitchOf 43 = .ok (.iload_n 2, 1) := by decide +kernel
theorem dX7_pitchOf_44 : decode cX7_pitchOf 44 = .ok (.invokevirtual 98, 3) := by decide +kernel
theorem dX7_pitchOf_47 : decode cX7_pitchOf 47 = .ok (.goto 35, 3) := by decide +kernel
theorem dX7_pitchOf_50 : decode cX7_pitchOf 50 = .ok (.iload_n 2, 1) := by decide +kernel
theorem dX7_pitchOf_51 : decode cX7_pitchOf 51 = .ok (.iconst 4, 1) := by decide +kernel
theorem dX7_pitchOf_52 : decode cX7_pitchOf 52 = .ok (.if_icmp .ne 11, 3) := by decide +kernel
theorem dX7_pitchOf_55 : decode cX7_pitchOf 55 = .ok (.aload_n 0, 1) := by decide +kernel
theorem dX7_pitchOf_56 : decode cX7_pitchOf 56 = .ok (.iload_n 1, 1) := by decide +kernel
theorem dX7_pitchOf_57 : decode cX7_pitchOf 57 = .ok (.invokevirtual 94, 3) := by decide +kernel
theorem dX7_pitchOf_60 : decode cX7_pitchOf 60 = .ok (.goto 22, 3) := by decide +kernel
theorem dX7_pitchOf_63 : decode cX7_pitchOf 63 = .ok (.iload_n 2, 1) := by decide +kernel
theorem dX7_pitchOf_64 : decode cX7_pitchOf 64 = .ok (.iconst 5, 1) := by decide +kernel
theorem dX7_pitchOf_65 : decode cX7_pitchOf 65 = .ok (.if_icmp .ne 11, 3) := by decide +kernel
theorem dX7_pitchOf_68 : decode cX7_pitchOf 68 = .ok (.aload_n 0, 1) := by decide +kernel
theorem dX7_pitchOf_69 : decode cX7_pitchOf 69 = .ok (.iload_n 1, 1) := by decide +kernel
theorem dX7_pitchOf_70 : decode cX7_pitchOf 70 = .ok (.invokevirtual 101, 3) := by decide +kernel
theorem dX7_pitchOf_73 : decode cX7_pitchOf 73 = .ok (.goto 9, 3) := by decide +kernel
theorem dX7_pitchOf_76 : decode cX7_pitchOf 76 = .ok (.aload_n 0, 1) := by decide +kernel
theorem dX7_pitchOf_77 : decode cX7_pitchOf 77 = .ok (.iload_n 1, 1) := by decide +kernel
theorem dX7_pitchOf_78 : decode cX7_pitchOf 78 = .ok (.iconst 4, 1) := by decide +kernel
theorem dX7_pitchOf_79 : decode cX7_pitchOf 79 = .ok (.invokevirtual 98, 3) := by decide +kernel
theorem dX7_pitchOf_82 : decode cX7_pitchOf 82 = .ok (.ireturn, 1) := by decide +kernel
theorem dX7_sign_0 : decode cX7_sign 0 = .ok (.aload_n 0, 1) := by decide +kernel
theorem dX7_sign_1 : decode cX7_sign 1 = .ok (.aload_n 0, 1) := by decide +kernel
theorem dX7_sign_2 : decode cX7_sign 2 = .ok (.iload_n 1, 1) := by decide +kernel
theorem dX7_sign_3 : decode cX7_sign 3 = .ok (.invokevirtual 91, 3) := by decide +kernel
theorem dX7_sign_6 : decode cX7_sign 6 = .ok (.ifCond .eq 7, 3) := by decide +kernel
theorem dX7_sign_9 : decode cX7_sign 9 = .ok (.iconst 0, 1) := by decide +kernel
theorem dX7_sign_10 : decode cX7_sign 10 = .ok (.goto 4, 3) := by decide +kernel
theorem dX7_sign_13 : decode cX7_sign 13 = .ok (.iconst 1, 1) := by decide +kernel
theorem dX7_sign_14 : decode cX7_sign 14 = .ok (.invokevirtual 70, 3) := by decide +kernel
theorem dX7_sign_17 : decode cX7_sign 17 = .ok (.ifCond .eq 6, 3) := by decide +kernel
theorem dX7_sign_20 : decode cX7_sign 20 = .ok (.bipush 32, 2) := by decide +kernel
theorem dX7_sign_22 : decode cX7_sign 22 = .ok (.ireturn, 1) := by decide +kernel
theorem dX7_sign_23 : decode cX7_sign 23 = .ok (.aload_n 0, 1) := by decide +kernel
theorem dX7_sign_24 : decode cX7_sign 24 = .ok (.iload_n 1, 1) := by decide +kernel
theorem dX7_sign_25 : decode cX7_sign 25 = .ok (.iconst 3, 1) := by decide +kernel
theorem dX7_sign_26 : decode cX7_sign 26 = .ok (.invokevirtual 98, 3) := by decide +kernel
theorem dX7_sign_29 : decode cX7_sign 29 = .ok (.iconst 1, 1) := by decide +kernel
theorem dX7_sign_30 : decode cX7_sign 30 = .ok (.if_icmp .ne 6, 3) := by decide +kernel
theorem dX7_sign_33 : decode cX7_sign 33 = .ok (.bipush 99, 2) := by decide +kernel
theorem dX7_sign_35 : decode cX7_sign 35 = .ok (.ireturn, 1) := by decide +kernel
theorem dX7_sign_36 : decode cX7_sign 36 = .ok (.aload_n 0, 1) := by decide +kernel
theorem dX7_sign_37 : decode cX7_sign 37 = .ok (.iload_n 1, 1) := by decide +kernel
theorem dX7_sign_38 : decode cX7_sign 38 = .ok (.invokevirtual 94, 3) := by decide +kernel
theorem dX7_sign_41 : decode cX7_sign 41 = .ok (.ifCond .lt 6, 3) := by decide +kernel
theorem dX7_sign_44 : decode cX7_sign 44 = .ok (.bipush 104, 2) := by decide +kernel
theorem dX7_sign_46 : decode cX7_sign 46 = .ok (.ireturn, 1) := by decide +kernel
theorem dX7_sign_47 : decode cX7_sign 47 = .ok (.aload_n 0, 1) := by decide +kernel
theorem dX7_sign_48 : decode cX7_sign 48 = .ok (.iload_n 1, 1) := by decide +kernel
theorem dX7_sign_49 : decode cX7_sign 49 = .ok (.invokevirtual 101, 3) := by decide +kernel
theorem dX7_sign_52 : decode cX7_sign 52 = .ok (.ifCond .lt 8, 3) := by decide +kernel
theorem dX7_sign_55 : decode cX7_sign 55 = .ok (.bipush 105, 2) := by decide +kernel
theorem dX7_sign_57 : decode cX7_sign 57 = .ok (.goto 21, 3) := by decide +kernel
theorem dX7_sign_60 : decode cX7_sign 60 = .ok (.aload_n 0, 1) := by decide +kernel
theorem dX7_sign_61 : decode cX7_sign 61 = .ok (.iload_n 1, 1) := by decide +kernel
theorem dX7_sign_62 : decode cX7_sign 62 = .ok (.iconst 0, 1) := by decide +kernel
theorem dX7_sign_63 : decode cX7_sign 63 = .ok (.invokevirtual 98, 3) := by decide +kernel
theorem dX7_sign_66 : decode cX7_sign 66 = .ok (.bipush 60, 2) := by decide +kernel
theorem dX7_sign_68 : decode cX7_sign 68 = .ok (.if_icmp .le 8, 3) := by decide +kernel
theorem dX7_sign_71 : decode cX7_sign 71 = .ok (.bipush 119, 2) := by decide +kernel
theorem dX7_sign_73 : decode cX7_sign 73 = .ok (.goto 5, 3) := by decide +kernel
theorem dX7_sign_76 : decode cX7_sign 76 = .ok (.bipush 100, 2) := by decide +kernel
theorem dX7_sign_78 : decode cX7_sign 78 = .ok (.ireturn, 1) := by decide +kernel
theorem dX7_horse_0 : decode cX7_horse 0 = .ok (.aload_n 0, 1) := by decide +kernel
theorem dX7_horse_1 : decode cX7_horse 1 = .ok (.iload_n 1, 1) := by decide +kernel
theorem dX7_horse_2 : decode cX7_horse 2 = .ok (.iconst 1, 1) := by decide +kernel
theorem dX7_horse_3 : decode cX7_horse 3 = .ok (.bipush 9, 2) := by decide +kernel
theorem dX7_horse_5 : decode cX7_horse 5 = .ok (.invokestatic 58, 3) := by decide +kernel
theorem dX7_horse_8 : decode cX7_horse 8 = .ok (.ifCond .eq 7, 3) := by decide +kernel
theorem dX7_horse_11 : decode cX7_horse 11 = .ok (.iconst 0, 1) := by decide +kernel
theorem dX7_horse_12 : decode cX7_horse 12 = .ok (.goto 4, 3) := by decide +kernel
theorem dX7_horse_15 : decode cX7_horse 15 = .ok (.iconst 1, 1) := by decide +kernel
theorem dX7_horse_16 : decode cX7_horse 16 = .ok (.invokevirtual 70, 3) := by decide +kernel
theorem dX7_horse_19 : decode cX7_horse 19 = .ok (.ifCond .eq 5, 3) := by decide +kernel
theorem dX7_horse_22 : decode cX7_horse 22 = .ok (.iconst 0, 1) := by decide +kernel
theorem dX7_horse_23 : decode cX7_horse 23 = .ok (.ireturn, 1) := by decide +kernel
theorem dX7_horse_24 : decode cX7_horse 24 = .ok (.aload_n 0, 1) := by decide +kernel
theorem dX7_horse_25 : decode cX7_horse 25 = .ok (.getfield 7, 3) := by decide +kernel
theorem dX7_horse_28 : decode cX7_horse 28 = .ok (.bipush 71, 2) := by decide +kernel
theorem dX7_horse_30 : decode cX7_horse 30 = .ok (.iaload, 1) := by decide +kernel
theorem dX7_horse_31 : decode cX7_horse 31 = .ok (.iconst 5, 1) := by decide +kernel
theorem dX7_horse_32 : decode cX7_horse 32 = .ok (.if_icmp .ne 11, 3) := by decide +kernel
theorem dX7_horse_35 : decode cX7_horse 35 = .ok (.aload_n 0, 1) := by decide +kernel
theorem dX7_horse_36 : decode cX7_horse 36 = .ok (.iconst 2, 1) := by decide +kernel
theorem dX7_horse_37 : decode cX7_horse 37 = .ok (.iconst 1, 1) := by decide +kernel
theorem dX7_horse_38 : decode cX7_horse 38 = .ok (.iconst 5, 1) := by decide +kernel
theorem dX7_horse_39 : decode cX7_horse 39 = .ok (.invokevirtual 77, 3) := by decide +kernel
theorem dX7_horse_42 : decode cX7_horse 42 = .ok (.ireturn, 1) := by decide +kernel
theorem dX7_horse_43 : decode cX7_horse 43 = .ok (.aload_n 0, 1) := by decide +kernel
theorem dX7_horse_44 : decode cX7_horse 44 = .ok (.aload_n 0, 1) := by decide +kernel
theorem dX7_horse_45 : decode cX7_horse 45 = .ok (.getfield 7, 3) := by decide +kernel
theorem dX7_horse_48 : decode cX7_horse 48 = .ok (.invokevirtual 62, 3) := by decide +kernel
theorem dX7_horse_51 : decode cX7_horse 51 = .ok (.aload_n 0, 1) := by decide +kernel
theorem dX7_horse_52 : decode cX7_horse 52 = .ok (.getfield 7, 3) := by decide +kernel
theorem dX7_horse_55 : decode cX7_horse 55 = .ok (.bipush 71, 2) := by decide +kernel
theorem dX7_horse_57 : decode cX7_horse 57 = .ok (.iaload, 1) := by decide +kernel
theorem dX7_horse_58 : decode cX7_horse 58 = .ok (.istore_n 3, 1) := by decide +kernel
theorem dX7_horse_59 : decode cX7_horse 59 = .ok (.aload_n 0, 1) := by decide +kernel
theorem dX7_horse_60 : decode cX7_horse 60 = .ok (.getfield 7, 3) := by decide +kernel
theorem dX7_horse_63 : decode cX7_horse 63 = .ok (.bipush 71, 2) := by decide +kernel
theorem dX7_horse_65 : decode cX7_horse 65 = .ok (.dup2, 1) := by decide +kernel
theorem dX7_horse_66 : decode cX7_horse 66 = .ok (.iaload, 1) := by decide +kernel
theorem dX7_horse_67 : decode cX7_horse 67 = .ok (.iconst 1, 1) := by decide +kernel
theorem dX7_horse_68 : decode cX7_horse 68 = .ok (.iadd, 1) := by decide +kernel
theorem dX7_horse_69 : decode cX7_horse 69 = .ok (.iastore, 1) := by decide +kernel
theorem dX7_horse_70 : decode cX7_horse 70 = .ok (.iconst 0, 1) := by decide +kernel
theorem dX7_horse_71 : decode cX7_horse 71 = .ok (.istore 4, 2) := by decide +kernel
theorem dX7_horse_73 : decode cX7_horse 73 = .ok (.iload 4, 2) := by decide +kernel
theorem dX7_horse_75 : decode cX7_horse 75 = .ok (.bipush 6, 2) := by decide +kernel
theorem dX7_horse_77 : decode cX7_horse 77 = .ok (.if_icmp .ge 17, 3) := by decide +kernel
theorem dX7_horse_80 : decode cX7_horse 80 = .ok (.aload_n 0, 1) := by decide +kernel
theorem dX7_horse_81 : decode cX7_horse 81 = .ok (.iload_n 3, 1) := by decide +kernel
theorem dX7_horse_82 : decode cX7_horse 82 = .ok (.iload 4, 2) := by decide +kernel
theorem dX7_horse_84 : decode cX7_horse 84 = .ok (.iconst 0, 1) := by decide +kernel
theorem dX7_horse_85 : decode cX7_horse 85 = .ok (.invokevirtual 104, 3) := by decide +kernel
theorem dX7_horse_88 : decode cX7_horse 88 = .ok (.iinc 4 1, 3) := by decide +kernel
theorem dX7_horse_91 : decode cX7_horse 91 = .ok (.goto (-18), 3) := by decide +kernel
theorem dX7_horse_94 : decode cX7_horse 94 = .ok (.aload_n 0, 1) := by decide +kernel
theorem dX7_horse_95 : decode cX7_horse 95 = .ok (.iload_n 3, 1) := by decide +kernel
theorem dX7_horse_96 : decode cX7_horse 96 = .ok (.iconst 0, 1) := by decide +kernel
theorem dX7_horse_97 : decode cX7_horse 97 = .ok (.iload_n 1, 1) := by decide +kernel
theorem dX7_horse_98 : decode cX7_horse 98 = .ok (.invokevirtual 104, 3) := by decide +kernel
theorem dX7_horse_101 : decode cX7_horse 101 = .ok (.aload_n 0, 1) := by decide +kernel
theorem dX7_horse_102 : decode cX7_horse 102 = .ok (.iload_n 3, 1) := by decide +kernel
theorem dX7_horse_103 : decode cX7_horse 103 = .ok (.iconst 1, 1) := by decide +kernel
theorem dX7_horse_104 : decode cX7_horse 104 = .ok (.iload_n 2, 1) := by decide +kernel
theorem dX7_horse_105 : decode cX7_horse 105 = .ok (.ifCond .eq 7, 3) := by decide +kernel
theorem dX7_horse_108 : decode cX7_horse 108 = .ok (.iconst 1, 1) := by decide +kernel
theorem dX7_horse_109 : decode cX7_horse 109 = .ok (.goto 4, 3) := by decide +kernel
theorem dX7_horse_112 : decode cX7_horse 112 = .ok (.iconst 0, 1) := by decide +kernel
theorem dX7_horse_113 : decode cX7_horse 113 = .ok (.invokevirtual 104, 3) := by decide +kernel
theorem dX7_horse_116 : decode cX7_horse 116 = .ok (.aload_n 0, 1) := by decide +kernel
theorem dX7_horse_117 : decode cX7_horse 117 = .ok (.iload_n 3, 1) := by decide +kernel
theorem dX7_horse_118 : decode cX7_horse 118 = .ok (.iconst 4, 1) := by decide +kernel
theorem dX7_horse_119 : decode cX7_horse 119 = .ok (.iconst (-1), 1) := by decide +kernel
theorem dX7_horse_120 : decode cX7_horse 120 = .ok (.invokevirtual 104, 3) := by decide +kernel
theorem dX7_horse_123 : decode cX7_horse 123 = .ok (.iload_n 3, 1) := by decide +kernel
theorem dX7_horse_124 : decode cX7_horse 124 = .ok (.ireturn, 1) := by decide +kernel
theorem dX7_booted_0 : decode cX7_booted 0 = .ok (.iconst 0, 1) := by decide +kernel
theorem dX7_booted_1 : decode cX7_booted 1 = .ok (.istore_n 1, 1) := by decide +kernel
theorem dX7_booted_2 : decode cX7_booted 2 = .ok (.iconst 0, 1) := by decide +kernel
theorem dX7_booted_3 : decode cX7_booted 3 = .ok (.istore_n 2, 1) := by decide +kernel
theorem dX7_booted_4 : decode cX7_booted 4 = .ok (.iload_n 2, 1) := by decide +kernel
theorem dX7_booted_5 : decode cX7_booted 5 = .ok (.aload_n 0, 1) := by decide +kernel
theorem dX7_booted_6 : decode cX7_booted 6 = .ok (.getfield 7, 3) := by decide +kernel
theorem dX7_booted_9 : decode cX7_booted 9 = .ok (.bipush 71, 2) := by decide +kernel
theorem dX7_booted_11 : decode cX7_booted 11 = .ok (.iaload, 1) := by decide +kernel
theorem dX7_booted_12 : decode cX7_booted 12 = .ok (.if_icmp .ge 18, 3) := by decide +kernel
theorem dX7_booted_15 : decode cX7_booted 15 = .ok (.iload_n 1, 1) := by decide +kernel
theorem dX7_booted_16 : decode cX7_booted 16 = .ok (.aload_n 0, 1) := by decide +kernel
theorem dX7_booted_17 : decode cX7_booted 17 = .ok (.iload_n 2, 1) := by decide +kernel
theorem dX7_booted_18 : decode cX7_booted 18 = .ok (.iconst 1, 1) := by decide +kernel
theorem dX7_booted_19 : decode cX7_booted 19 = .ok (.invokevirtual 85, 3) := by decide +kernel
theorem dX7_booted_22 : decode cX7_booted 22 = .ok (.iadd, 1) := by decide +kernel
theorem dX7_booted_23 : decode cX7_booted 23 = .ok (.istore_n 1, 1) := by decide +kernel
theorem dX7_booted_24 : decode cX7_booted 24 = .ok (.iinc 2 1, 3) := by decide +kernel
theorem dX7_booted_27 : decode cX7_booted 27 = .ok (.goto (-23), 3) := by decide +kernel
theorem dX7_booted_30 : decode cX7_booted 30 = .ok (.iload_n 1, 1) := by decide +kernel
theorem dX7_booted_31 : decode cX7_booted 31 = .ok (.ireturn, 1) := by decide +kernel
theorem dX7_boots_0 : decode cX7_boots 0 = .ok (.aload_n 0, 1) := by decide +kernel
theorem dX7_boots_1 : decode cX7_boots 1 = .ok (.aload_n 0, 1) := by decide +kernel
theorem dX7_boots_2 : decode cX7_boots 2 = .ok (.iload_n 1, 1) := by decide +kernel
theorem dX7_boots_3 : decode cX7_boots 3 = .ok (.invokevirtual 107, 3) := by decide +kernel
theorem dX7_boots_6 : decode cX7_boots 6 = .ok (.ifCond .eq 7, 3) := by decide +kernel
theorem dX7_boots_9 : decode cX7_boots 9 = .ok (.iconst 0, 1) := by decide +kernel
theorem dX7_boots_10 : decode cX7_boots 10 = .ok (.goto 4, 3) := by decide +kernel
theorem dX7_boots_13 : decode cX7_boots 13 = .ok (.iconst 1, 1) := by decide +kernel
theorem dX7_boots_14 : decode cX7_boots 14 = .ok (.invokevirtual 70, 3) := by decide +kernel
theorem dX7_boots_17 : decode cX7_boots 17 = .ok (.ifCond .eq 5, 3) := by decide +kernel
theorem dX7_boots_20 : decode cX7_boots 20 = .ok (.iconst 0, 1) := by decide +kernel
theorem dX7_boots_21 : decode cX7_boots 21 = .ok (.ireturn, 1) := by decide +kernel
theorem dX7_boots_22 : decode cX7_boots 22 = .ok (.aload_n 0, 1) := by decide +kernel
theorem dX7_boots_23 : decode cX7_boots 23 = .ok (.iload_n 1, 1) := by decide +kernel
theorem dX7_boots_24 : decode cX7_boots 24 = .ok (.iconst 3, 1) := by decide +kernel
theorem dX7_boots_25 : decode cX7_boots 25 = .ok (.invokevirtual 85, 3) := by decide +kernel
theorem dX7_boots_28 : decode cX7_boots 28 = .ok (.ifCond .le 16, 3) := by decide +kernel
theorem dX7_boots_31 : decode cX7_boots 31 = .ok (.aload_n 0, 1) := by decide +kernel
theorem dX7_boots_32 : decode cX7_boots 32 = .ok (.iconst 2, 1) := by decide +kernel
theorem dX7_boots_33 : decode cX7_boots 33 = .ok (.iconst 2, 1) := by decide +kernel
theorem dX7_boots_34 : decode cX7_boots 34 = .ok (.aload_n 0, 1) := by decide +kernel
theorem dX7_boots_35 : decode cX7_boots 35 = .ok (.iload_n 1, 1) := by decide +kernel
theorem dX7_boots_36 : decode cX7_boots 36 = .ok (.iconst 3, 1) := by decide +kernel
theorem dX7_boots_37 : decode cX7_boots 37 = .ok (.invokevirtual 85, 3) := by decide +kernel
theorem dX7_boots_40 : decode cX7_boots 40 = .ok (.invokevirtual 77, 3) := by decide +kernel
theorem dX7_boots_43 : decode cX7_boots 43 = .ok (.ireturn, 1) := by decide +kernel
theorem dX7_boots_44 : decode cX7_boots 44 = .ok (.aload_n 0, 1) := by decide +kernel
theorem dX7_boots_45 : decode cX7_boots 45 = .ok (.aload_n 0, 1) := by decide +kernel
theorem dX7_boots_46 : decode cX7_boots 46 = .ok (.getfield 7, 3) := by decide +kernel
theorem dX7_boots_49 : decode cX7_boots 49 = .ok (.invokevirtual 62, 3) := by decide +kernel
theorem dX7_boots_52 : decode cX7_boots 52 = .ok (.aload_n 0, 1) := by decide +kernel
theorem dX7_boots_53 : decode cX7_boots 53 = .ok (.iload_n 1, 1) := by decide +kernel
theorem dX7_boots_54 : decode cX7_boots 54 = .ok (.iconst 1, 1) := by decide +kernel
theorem dX7_boots_55 : decode cX7_boots 55 = .ok (.iload_n 2, 1) := by decide +kernel
theorem dX7_boots_56 : decode cX7_boots 56 = .ok (.ifCond .eq 7, 3) := by decide +kernel
theorem dX7_boots_59 : decode cX7_boots 59 = .ok (.iconst 1, 1) := by decide +kernel
theorem dX7_boots_60 : decode cX7_boots 60 = .ok (.goto 4, 3) := by decide +kernel
theorem dX7_boots_63 : decode cX7_boots 63 = .ok (.iconst 0, 1) := by decide +kernel
theorem dX7_boots_64 : decode cX7_boots 64 = .ok (.invokevirtual 104, 3) := by decide +kernel
theorem dX7_boots_67 : decode cX7_boots 67 = .ok (.aload_n 0, 1) := by decide +kernel
theorem dX7_boots_68 : decode cX7_boots 68 = .ok (.invokevirtual 110, 3) := by decide +kernel
theorem dX7_boots_71 : decode cX7_boots 71 = .ok (.ireturn, 1) := by decide +kernel
theorem dX7_horseOf_0 : decode cX7_horseOf 0 = .ok (.aload_n 0, 1) := by decide +kernel
theorem dX7_horseOf_1 : decode cX7_horseOf 1 = .ok (.aload_n 0, 1) := by decide +kernel
theorem dX7_horseOf_2 : decode cX7_horseOf 2 = .ok (.iload_n 1, 1) := by decide +kernel
theorem dX7_horseOf_3 : decode cX7_horseOf 3 = .ok (.invokevirtual 107, 3) := by decide +kernel
theorem dX7_horseOf_6 : decode cX7_horseOf 6 = .ok (.ifCond .ne 7, 3) := by decide +kernel
theorem dX7_horseOf_9 : decode cX7_horseOf 9 = .ok (.iconst 1, 1) := by decide +kernel
theorem dX7_horseOf_10 : decode cX7_horseOf 10 = .ok (.goto 17, 3) := by decide +kernel
theorem dX7_horseOf_13 : decode cX7_horseOf 13 = .ok (.iload_n 2, 1) := by decide +kernel
theorem dX7_horseOf_14 : decode cX7_horseOf 14 = .ok (.iconst 0, 1) := by decide +kernel
theorem dX7_horseOf_15 : decode cX7_horseOf 15 = .ok (.iconst 5, 1) := by decide +kernel
theorem dX7_horseOf_16 : decode cX7_horseOf 16 = .ok (.invokestatic 58, 3) := by decide +kernel
theorem dX7_horseOf_19 : decode cX7_horseOf 19 = .ok (.ifCond .eq 7, 3) := by decide +kernel
theorem dX7_horseOf_22 : decode cX7_horseOf 22 = .ok (.iconst 0, 1) := by decide +kernel
theorem dX7_horseOf_23 : decode cX7_horseOf 23 = .ok (.goto 4, 3) := by decide +kernel
theorem dX7_horseOf_26 : decode cX7_horseOf 26 = .ok (.iconst 2, 1) := by decide +kernel
theorem dX7_horseOf_27 : decode cX7_horseOf 27 = .ok (.invokevirtual 70, 3) := by decide +kernel
theorem dX7_horseOf_30 : decode cX7_horseOf 30 = .ok (.ifCond .eq 7, 3) := by decide +kernel
theorem dX7_horseOf_33 : decode cX7_horseOf 33 = .ok (.iconst 0, 1) := by decide +kernel
theorem dX7_horseOf_34 : decode cX7_horseOf 34 = .ok (.goto 9, 3) := by decide +kernel
theorem dX7_horseOf_37 : decode cX7_horseOf 37 = .ok (.aload_n 0, 1) := by decide +kernel
theorem dX7_horseOf_38 : decode cX7_horseOf 38 = .ok (.iload_n 1, 1) := by decide +kernel
theorem dX7_horseOf_39 : decode cX7_horseOf 39 = .ok (.iload_n 2, 1) := by decide +kernel
theorem dX7_horseOf_40 : decode cX7_horseOf 40 = .ok (.invokevirtual 85, 3) := by decide +kernel
theorem dX7_horseOf_43 : decode cX7_horseOf 43 = .ok (.ireturn, 1) := by decide +kernel
theorem dX7_whyNot_0 : decode cX7_whyNot 0 = .ok (.aload_n 0, 1) := by decide +kernel
theorem dX7_whyNot_1 : decode cX7_whyNot 1 = .ok (.iload_n 1, 1) := by decide +kernel
theorem dX7_whyNot_2 : decode cX7_whyNot 2 = .ok (.iconst 3, 1) := by decide +kernel
theorem dX7_whyNot_3 : decode cX7_whyNot 3 = .ok (.invokevirtual 85, 3) := by decide +kernel
theorem dX7_whyNot_6 : decode cX7_whyNot 6 = .ok (.ifCond .le 5, 3) := by decide +kernel
theorem dX7_whyNot_9 : decode cX7_whyNot 9 = .ok (.iconst 2, 1) := by decide +kernel
theorem dX7_whyNot_10 : decode cX7_whyNot 10 = .ok (.ireturn, 1) := by decide +kernel
theorem dX7_whyNot_11 : decode cX7_whyNot 11 = .ok (.aload_n 0, 1) := by decide +kernel
theorem dX7_whyNot_12 : decode cX7_whyNot 12 = .ok (.iload_n 1, 1) := by decide +kernel
theorem dX7_whyNot_13 : decode cX7_whyNot 13 = .ok (.iconst 2, 1) := by decide +kernel
theorem dX7_whyNot_14 : decode cX7_whyNot 14 = .ok (.invokevirtual 85, 3) := by decide +kernel
theorem dX7_whyNot_17 : decode cX7_whyNot 17 = .ok (.bipush 15, 2) := by decide +kernel
theorem dX7_whyNot_19 : decode cX7_whyNot 19 = .ok (.if_icmp .le 5, 3) := by decide +kernel
theorem dX7_whyNot_22 : decode cX7_whyNot 22 = .ok (.iconst 3, 1) := by decide +kernel
theorem dX7_whyNot_23 : decode cX7_whyNot 23 = .ok (.ireturn, 1) := by decide +kernel
theorem dX7_whyNot_24 : decode cX7_whyNot 24 = .ok (.aload_n 0, 1) := by decide +kernel
theorem dX7_whyNot_25 : decode cX7_whyNot 25 = .ok (.iload_n 2, 1) := by decide +kernel
theorem dX7_whyNot_26 : decode cX7_whyNot 26 = .ok (.invokevirtual 94, 3) := by decide +kernel
theorem dX7_whyNot_29 : decode cX7_whyNot 29 = .ok (.ifCond .lt 5, 3) := by decide +kernel
theorem dX7_whyNot_32 : decode cX7_whyNot 32 = .ok (.iconst 4, 1) := by decide +kernel
theorem dX7_whyNot_33 : decode cX7_whyNot 33 = .ok (.ireturn, 1) := by decide +kernel
theorem dX7_whyNot_34 : decode cX7_whyNot 34 = .ok (.aload_n 0, 1) := by decide +kernel
theorem dX7_whyNot_35 : decode cX7_whyNot 35 = .ok (.iload_n 2, 1) := by decide +kernel
theorem dX7_whyNot_36 : decode cX7_whyNot 36 = .ok (.invokevirtual 101, 3) := by decide +kernel
theorem dX7_whyNot_39 : decode cX7_whyNot 39 = .ok (.ifCond .lt 5, 3) := by decide +kernel
theorem dX7_whyNot_42 : decode cX7_whyNot 42 = .ok (.iconst 5, 1) := by decide +kernel
theorem dX7_whyNot_43 : decode cX7_whyNot 43 = .ok (.ireturn, 1) := by decide +kernel
theorem dX7_whyNot_44 : decode cX7_whyNot 44 = .ok (.aload_n 0, 1) := by decide +kernel
theorem dX7_whyNot_45 : decode cX7_whyNot 45 = .ok (.iload_n 2, 1) := by decide +kernel
theorem dX7_whyNot_46 : decode cX7_whyNot 46 = .ok (.iconst 3, 1) := by decide +kernel
theorem dX7_whyNot_47 : decode cX7_whyNot 47 = .ok (.invokevirtual 98, 3) := by decide +kernel
theorem dX7_whyNot_50 : decode cX7_whyNot 50 = .ok (.iconst 1, 1) := by decide +kernel
theorem dX7_whyNot_51 : decode cX7_whyNot 51 = .ok (.if_icmp .ne 6, 3) := by decide +kernel
theorem dX7_whyNot_54 : decode cX7_whyNot 54 = .ok (.bipush 6, 2) := by decide +kernel
theorem dX7_whyNot_56 : decode cX7_whyNot 56 = .ok (.ireturn, 1) := by decide +kernel
theorem dX7_whyNot_57 : decode cX7_whyNot 57 = .ok (.aload_n 0, 1) := by decide +kernel
theorem dX7_whyNot_58 : decode cX7_whyNot 58 = .ok (.iload_n 2, 1) := by decide +kernel
theorem dX7_whyNot_59 : decode cX7_whyNot 59 = .ok (.iconst 0, 1) := by decide +kernel
theorem dX7_whyNot_60 : decode cX7_whyNot 60 = .ok (.invokevirtual 98, 3) := by decide +kernel
theorem dX7_whyNot_63 : decode cX7_whyNot 63 = .ok (.bipush 60, 2) := by decide +kernel
theorem dX7_whyNot_65 : decode cX7_whyNot 65 = .ok (.if_icmp .le 17, 3) := by decide +kernel
theorem dX7_whyNot_68 : decode cX7_whyNot 68 = .ok (.aload_n 0, 1) := by decide +kernel
theorem dX7_whyNot_69 : decode cX7_whyNot 69 = .ok (.iload_n 1, 1) := by decide +kernel
theorem dX7_whyNot_70 : decode cX7_whyNot 70 = .ok (.iconst 1, 1) := by decide +kernel
theorem dX7_whyNot_71 : decode cX7_whyNot 71 = .ok (.invokevirtual 85, 3) := by decide +kernel
theorem dX7_whyNot_74 : decode cX7_whyNot 74 = .ok (.ifCond .ne 8, 3) := by decide +kernel
theorem dX7_whyNot_77 : decode cX7_whyNot 77 = .ok (.bipush 7, 2) := by decide +kernel
theorem dX7_whyNot_79 : decode cX7_whyNot 79 = .ok (.goto 4, 3) := by decide +kernel
theorem dX7_whyNot_82 : decode cX7_whyNot 82 = .ok (.iconst 0, 1) := by decide +kernel
theorem dX7_whyNot_83 : decode cX7_whyNot 83 = .ok (.ireturn, 1) := by decide +kernel
theorem dX7_detailOf_0 : decode cX7_detailOf 0 = .ok (.iload_n 1, 1) := by decide +kernel
theorem dX7_detailOf_1 : decode cX7_detailOf 1 = .ok (.tableswitch 63 2 6 #[35, 42, 49, 55, 61], 35) := by decide +kernel
theorem dX7_detailOf_36 : decode cX7_detailOf 36 = .ok (.aload_n 0, 1) := by decide +kernel
theorem dX7_detailOf_37 : decode cX7_detailOf 37 = .ok (.iload_n 2, 1) := by decide +kernel
theorem dX7_detailOf_38 : decode cX7_detailOf 38 = .ok (.iconst 3, 1) := by decide +kernel
theorem dX7_detailOf_39 : decode cX7_detailOf 39 = .ok (.invokevirtual 85, 3) := by decide +kernel
theorem dX7_detailOf_42 : decode cX7_detailOf 42 = .ok (.ireturn, 1) := by decide +kernel
theorem dX7_detailOf_43 : decode cX7_detailOf 43 = .ok (.aload_n 0, 1) := by decide +kernel
theorem dX7_detailOf_44 : decode cX7_detailOf 44 = .ok (.iload_n 2, 1) := by decide +kernel
theorem dX7_detailOf_45 : decode cX7_detailOf 45 = .ok (.iconst 2, 1) := by decide +kernel
theorem dX7_detailOf_46 : decode cX7_detailOf 46 = .ok (.invokevirtual 85, 3) := by decide +kernel
theorem dX7_detailOf_49 : decode cX7_detailOf 49 = .ok (.ireturn, 1) := by decide +kernel
theorem dX7_detailOf_50 : decode cX7_detailOf 50 = .ok (.aload_n 0, 1) := by decide +kernel
theorem dX7_detailOf_51 : decode cX7_detailOf 51 = .ok (.iload_n 3, 1) := by decide +kernel
theorem dX7_detailOf_52 : decode cX7_detailOf 52 = .ok (.invokevirtual 94, 3) := by decide +kernel
theorem dX7_detailOf_55 : decode cX7_detailOf 55 = .ok (.ireturn, 1) := by decide +kernel
theorem dX7_detailOf_56 : decode cX7_detailOf 56 = .ok (.aload_n 0, 1) := by decide +kernel
theorem dX7_detailOf_57 : decode cX7_detailOf 57 = .ok (.iload_n 3, 1) := by decide +kernel
theorem dX7_detailOf_58 : decode cX7_detailOf 58 = .ok (.invokevirtual 101, 3) := by decide +kernel
theorem dX7_detailOf_61 : decode cX7_detailOf 61 = .ok (.ireturn, 1) := by decide +kernel
theorem dX7_detailOf_62 : decode cX7_detailOf 62 = .ok (.iload_n 3, 1) := by decide +kernel
theorem dX7_detailOf_63 : decode cX7_detailOf 63 = .ok (.ireturn, 1) := by decide +kernel
theorem dX7_detailOf_64 : decode cX7_detailOf 64 = .ok (.aload_n 0, 1) := by decide +kernel
theorem dX7_detailOf_65 : decode cX7_detailOf 65 = .ok (.iload_n 3, 1) := by decide +kernel
theorem dX7_detailOf_66 : decode cX7_detailOf 66 = .ok (.iconst 0, 1) := by decide +kernel
theorem dX7_detailOf_67 : decode cX7_detailOf 67 = .ok (.invokevirtual 98, 3) := by decide +kernel
theorem dX7_detailOf_70 : decode cX7_detailOf 70 = .ok (.ireturn, 1) := by decide +kernel
theorem dX7_roll_0 : decode cX7_roll 0 = .ok (.aload_n 0, 1) := by decide +kernel
theorem dX7_roll_1 : decode cX7_roll 1 = .ok (.aload_n 0, 1) := by decide +kernel
theorem dX7_roll_2 : decode cX7_roll 2 = .ok (.iload_n 1, 1) := by decide +kernel
theorem dX7_roll_3 : decode cX7_roll 3 = .ok (.invokevirtual 107, 3) := by decide +kernel
theorem dX7_roll_6 : decode cX7_roll 6 = .ok (.ifCond .eq 11, 3) := by decide +kernel
theorem dX7_roll_9 : decode cX7_roll 9 = .ok (.aload_n 0, 1) := by decide +kernel
theorem dX7_roll_10 : decode cX7_roll 10 = .ok (.iload_n 2, 1) := by decide +kernel
theorem dX7_roll_11 : decode cX7_roll 11 = .ok (.invokevirtual 91, 3) := by decide +kernel
theorem dX7_roll_14 : decode cX7_roll 14 = .ok (.ifCond .ne 7, 3) := by decide +kernel
theorem dX7_roll_17 : decode cX7_roll 17 = .ok (.iconst 1, 1) := by decide +kernel
theorem dX7_roll_18 : decode cX7_roll 18 = .ok (.goto 18, 3) := by decide +kernel
theorem dX7_roll_21 : decode cX7_roll 21 = .ok (.iload_n 3, 1) := by decide +kernel
theorem dX7_roll_22 : decode cX7_roll 22 = .ok (.iconst 1, 1) := by decide +kernel
theorem dX7_roll_23 : decode cX7_roll 23 = .ok (.bipush 6, 2) := by decide +kernel
theorem dX7_roll_25 : decode cX7_roll 25 = .ok (.invokestatic 58, 3) := by decide +kernel
theorem dX7_roll_28 : decode cX7_roll 28 = .ok (.ifCond .eq 7, 3) := by decide +kernel
theorem dX7_roll_31 : decode cX7_roll 31 = .ok (.iconst 0, 1) := by decide +kernel
theorem dX7_roll_32 : decode cX7_roll 32 = .ok (.goto 4, 3) := by decide +kernel
theorem dX7_roll_35 : decode cX7_roll 35 = .ok (.iconst 2, 1) := by decide +kernel
theorem dX7_roll_36 : decode cX7_roll 36 = .ok (.invokevirtual 70, 3) := by decide +kernel
theorem dX7_roll_39 : decode cX7_roll 39 = .ok (.ifCond .eq 5, 3) := by decide +kernel
theorem dX7_roll_42 : decode cX7_roll 42 = .ok (.iconst 0, 1) := by decide +kernel
theorem dX7_roll_43 : decode cX7_roll 43 = .ok (.ireturn, 1) := by decide +kernel
theorem dX7_roll_44 : decode cX7_roll 44 = .ok (.aload_n 0, 1) := by decide +kernel
theorem dX7_roll_45 : decode cX7_roll 45 = .ok (.iload_n 1, 1) := by decide +kernel
theorem dX7_roll_46 : decode cX7_roll 46 = .ok (.iload_n 2, 1) := by decide +kernel
theorem dX7_roll_47 : decode cX7_roll 47 = .ok (.invokevirtual 114, 3) := by decide +kernel
theorem dX7_roll_50 : decode cX7_roll 50 = .ok (.istore 4, 2) := by decide +kernel
theorem dX7_roll_52 : decode cX7_roll 52 = .ok (.iload 4, 2) := by decide +kernel
theorem dX7_roll_54 : decode cX7_roll 54 = .ok (.ifCond .le 19, 3) := by decide +kernel
theorem dX7_roll_57 : decode cX7_roll 57 = .ok (.aload_n 0, 1) := by decide +kernel
theorem dX7_roll_58 : decode cX7_roll 58 = .ok (.iconst 3, 1) := by decide +kernel
theorem dX7_roll_59 : decode cX7_roll 59 = .ok (.iload 4, 2) := by decide +kernel
theorem dX7_roll_61 : decode cX7_roll 61 = .ok (.aload_n 0, 1) := by decide +kernel
theorem dX7_roll_62 : decode cX7_roll 62 = .ok (.iload 4, 2) := by decide +kernel
theorem dX7_roll_64 : decode cX7_roll 64 = .ok (.iload_n 1, 1) := by decide +kernel
theorem dX7_roll_65 : decode cX7_roll 65 = .ok (.iload_n 2, 1) := by decide +kernel
theorem dX7_roll_66 : decode cX7_roll 66 = .ok (.invokevirtual 117, 3) := by decide +kernel
theorem dX7_roll_69 : decode cX7_roll 69 = .ok (.invokevirtual 77, 3) := by decide +kernel
theorem dX7_roll_72 : decode cX7_roll 72 = .ok (.ireturn, 1) := by decide +kernel
theorem dX7_roll_73 : decode cX7_roll 73 = .ok (.aload_n 0, 1) := by decide +kernel
theorem dX7_roll_74 : decode cX7_roll 74 = .ok (.aload_n 0, 1) := by decide +kernel
theorem dX7_roll_75 : decode cX7_roll 75 = .ok (.getfield 7, 3) := by decide +kernel
theorem dX7_roll_78 : decode cX7_roll 78 = .ok (.invokevirtual 62, 3) := by decide +kernel
theorem dX7_roll_81 : decode cX7_roll 81 = .ok (.aload_n 0, 1) := by decide +kernel
theorem dX7_roll_82 : decode cX7_roll 82 = .ok (.iload_n 1, 1) := by decide +kernel
theorem dX7_roll_83 : decode cX7_roll 83 = .ok (.iconst 3, 1) := by decide +kernel
theorem dX7_roll_84 : decode cX7_roll 84 = .ok (.iload_n 3, 1) := by decide +kernel
theorem dX7_roll_85 : decode cX7_roll 85 = .ok (.invokevirtual 104, 3) := by decide +kernel
theorem dX7_roll_88 : decode cX7_roll 88 = .ok (.aload_n 0, 1) := by decide +kernel
theorem dX7_roll_89 : decode cX7_roll 89 = .ok (.iload_n 1, 1) := by decide +kernel
theorem dX7_roll_90 : decode cX7_roll 90 = .ok (.iconst 4, 1) := by decide +kernel
theorem dX7_roll_91 : decode cX7_roll 91 = .ok (.iload_n 2, 1) := by decide +kernel
theorem dX7_roll_92 : decode cX7_roll 92 = .ok (.invokevirtual 104, 3) := by decide +kernel
theorem dX7_roll_95 : decode cX7_roll 95 = .ok (.bipush 99, 2) := by decide +kernel
theorem dX7_roll_97 : decode cX7_roll 97 = .ok (.aload_n 0, 1) := by decide +kernel
theorem dX7_roll_98 : decode cX7_roll 98 = .ok (.iload_n 2, 1) := by decide +kernel
theorem dX7_roll_99 : decode cX7_roll 99 = .ok (.iconst 1, 1) := by decide +kernel
theorem dX7_roll_100 : decode cX7_roll 100 = .ok (.invokevirtual 98, 3) := by decide +kernel
theorem dX7_roll_103 : decode cX7_roll 103 = .ok (.iload_n 3, 1) := by decide +kernel
theorem dX7_roll_104 : decode cX7_roll 104 = .ok (.aload_n 0, 1) := by decide +kernel
theorem dX7_roll_105 : decode cX7_roll 105 = .ok (.iload_n 1, 1) := by decide +kernel
theorem dX7_roll_106 : decode cX7_roll 106 = .ok (.iconst 0, 1) := by decide +kernel
theorem dX7_roll_107 : decode cX7_roll 107 = .ok (.invokevirtual 85, 3) := by decide +kernel
theorem dX7_roll_110 : decode cX7_roll 110 = .ok (.imul, 1) := by decide +kernel
theorem dX7_roll_111 : decode cX7_roll 111 = .ok (.iadd, 1) := by decide +kernel
theorem dX7_roll_112 : decode cX7_roll 112 = .ok (.invokestatic 120, 3) := by decide +kernel
theorem dX7_roll_115 : decode cX7_roll 115 = .ok (.ireturn, 1) := by decide +kernel
theorem dX7_bestHorse_0 : decode cX7_bestHorse 0 = .ok (.aload_n 0, 1) := by decide +kernel
theorem dX7_bestHorse_1 : decode cX7_bestHorse 1 = .ok (.aload_n 0, 1) := by decide +kernel
theorem dX7_bestHorse_2 : decode cX7_bestHorse 2 = .ok (.iload_n 1, 1) := by decide +kernel
theorem dX7_bestHorse_3 : decode cX7_bestHorse 3 = .ok (.invokevirtual 91, 3) := by decide +kernel
theorem dX7_bestHorse_6 : decode cX7_bestHorse 6 = .ok (.ifCond .eq 7, 3) := by decide +kernel
theorem dX7_bestHorse_9 : decode cX7_bestHorse 9 = .ok (.iconst 0, 1) := by decide +kernel
theorem dX7_bestHorse_10 : decode cX7_bestHorse 10 = .ok (.goto 4, 3) := by decide +kernel
theorem dX7_bestHorse_13 : decode cX7_bestHorse 13 = .ok (.iconst 1, 1) := by decide +kernel
theorem dX7_bestHorse_14 : decode cX7_bestHorse 14 = .ok (.invokevirtual 70, 3) := by decide +kernel
theorem dX7_bestHorse_17 : decode cX7_bestHorse 17 = .ok (.ifCond .eq 5, 3) := by decide +kernel
theorem dX7_bestHorse_20 : decode cX7_bestHorse 20 = .ok (.iconst 0, 1) := by decide +kernel
theorem dX7_bestHorse_21 : decode cX7_bestHorse 21 = .ok (.ireturn, 1) := by decide +kernel
theorem dX7_bestHorse_22 : decode cX7_bestHorse 22 = .ok (.iconst (-1), 1) := by decide +kernel
theorem dX7_bestHorse_23 : decode cX7_bestHorse 23 = .ok (.istore_n 2, 1) := by decide +kernel
theorem dX7_bestHorse_24 : decode cX7_bestHorse 24 = .ok (.iconst 0, 1) := by decide +kernel
theorem dX7_bestHorse_25 : decode cX7_bestHorse 25 = .ok (.istore_n 3, 1) := by decide +kernel
theorem dX7_bestHorse_26 : decode cX7_bestHorse 26 = .ok (.iload_n 3, 1) := by decide +kernel
theorem dX7_bestHorse_27 : decode cX7_bestHorse 27 = .ok (.aload_n 0, 1) := by decide +kernel
theorem dX7_bestHorse_28 : decode cX7_bestHorse 28 = .ok (.getfield 7, 3) := by decide +kernel
theorem dX7_bestHorse_31 : decode cX7_bestHorse 31 = .ok (.bipush 71, 2) := by decide +kernel
theorem dX7_bestHorse_33 : decode cX7_bestHorse 33 = .ok (.iaload, 1) := by decide +kernel
theorem dX7_bestHorse_34 : decode cX7_bestHorse 34 = .ok (.if_icmp .ge 71, 3) := by decide +kernel
theorem dX7_bestHorse_37 : decode cX7_bestHorse 37 = .ok (.aload_n 0, 1) := by decide +kernel
theorem dX7_bestHorse_38 : decode cX7_bestHorse 38 = .ok (.iload_n 3, 1) := by decide +kernel
theorem dX7_bestHorse_39 : decode cX7_bestHorse 39 = .ok (.iload_n 1, 1) := by decide +kernel
theorem dX7_bestHorse_40 : decode cX7_bestHorse 40 = .ok (.invokevirtual 114, 3) := by decide +kernel
theorem dX7_bestHorse_43 : decode cX7_bestHorse 43 = .ok (.ifCond .le 6, 3) := by decide +kernel
theorem dX7_bestHorse_46 : decode cX7_bestHorse 46 = .ok (.goto 53, 3) := by decide +kernel
theorem dX7_bestHorse_49 : decode cX7_bestHorse 49 = .ok (.iload_n 2, 1) := by decide +kernel
theorem dX7_bestHorse_50 : decode cX7_bestHorse 50 = .ok (.ifCond .ge 7, 3) := by decide +kernel
theorem dX7_bestHorse_53 : decode cX7_bestHorse 53 = .ok (.iconst 1, 1) := by decide +kernel
theorem dX7_bestHorse_54 : decode cX7_bestHorse 54 = .ok (.goto 16, 3) := by decide +kernel
theorem dX7_bestHorse_57 : decode cX7_bestHorse 57 = .ok (.aload_n 0, 1) := by decide +kernel
theorem dX7_bestHorse_58 : decode cX7_bestHorse 58 = .ok (.iload_n 3, 1) := by decide +kernel
theorem dX7_bestHorse_59 : decode cX7_bestHorse 59 = .ok (.iconst 0, 1) := by decide +kernel
theorem dX7_bestHorse_60 : decode cX7_bestHorse 60 = .ok (.invokevirtual 85, 3) := by decide +kernel
theorem dX7_bestHorse_63 : decode cX7_bestHorse 63 = .ok (.aload_n 0, 1) := by decide +kernel
theorem dX7_bestHorse_64 : decode cX7_bestHorse 64 = .ok (.iload_n 2, 1) := by decide +kernel
theorem dX7_bestHorse_65 : decode cX7_bestHorse 65 = .ok (.iconst 0, 1) := by decide +kernel
theorem dX7_bestHorse_66 : decode cX7_bestHorse 66 = .ok (.invokevirtual 85, 3) := by decide +kernel
theorem dX7_bestHorse_69 : decode cX7_bestHorse 69 = .ok (.isub, 1) := by decide +kernel
theorem dX7_bestHorse_70 : decode cX7_bestHorse 70 = .ok (.istore 4, 2) := by decide +kernel
theorem dX7_bestHorse_72 : decode cX7_bestHorse 72 = .ok (.iload 4, 2) := by decide +kernel
theorem dX7_bestHorse_74 : decode cX7_bestHorse 74 = .ok (.ifCond .gt 23, 3) := by decide +kernel
theorem dX7_bestHorse_77 : decode cX7_bestHorse 77 = .ok (.iload 4, 2) := by decide +kernel
theorem dX7_bestHorse_79 : decode cX7_bestHorse 79 = .ok (.ifCond .ne 20, 3) := by decide +kernel
theorem dX7_bestHorse_82 : decode cX7_bestHorse 82 = .ok (.aload_n 0, 1) := by decide +kernel
theorem dX7_bestHorse_83 : decode cX7_bestHorse 83 = .ok (.iload_n 3, 1) := by decide +kernel
theorem dX7_bestHorse_84 : decode cX7_bestHorse 84 = .ok (.iconst 2, 1) := by decide +kernel
theorem dX7_bestHorse_85 : decode cX7_bestHorse 85 = .ok (.invokevirtual 85, 3) := by decide +kernel
theorem dX7_bestHorse_88 : decode cX7_bestHorse 88 = .ok (.aload_n 0, 1) := by decide +kernel
theorem dX7_bestHorse_89 : decode cX7_bestHorse 89 = .ok (.iload_n 2, 1) := by decide +kernel
theorem dX7_bestHorse_90 : decode cX7_bestHorse 90 = .ok (.iconst 2, 1) := by decide +kernel
theorem dX7_bestHorse_91 : decode cX7_bestHorse 91 = .ok (.invokevirtual 85, 3) := by decide +kernel
theorem dX7_bestHorse_94 : decode cX7_bestHorse 94 = .ok (.if_icmp .ge 5, 3) := by decide +kernel
theorem dX7_bestHorse_97 : decode cX7_bestHorse 97 = .ok (.iload_n 3, 1) := by decide +kernel
theorem dX7_bestHorse_98 : decode cX7_bestHorse 98 = .ok (.istore_n 2, 1) := by decide +kernel
theorem dX7_bestHorse_99 : decode cX7_bestHorse 99 = .ok (.iinc 3 1, 3) := by decide +kernel
theorem dX7_bestHorse_102 : decode cX7_bestHorse 102 = .ok (.goto (-76), 3) := by decide +kernel
theorem dX7_bestHorse_105 : decode cX7_bestHorse 105 = .ok (.aload_n 0, 1) := by decide +kernel
theorem dX7_bestHorse_106 : decode cX7_bestHorse 106 = .ok (.iload_n 2, 1) := by decide +kernel
theorem dX7_bestHorse_107 : decode cX7_bestHorse 107 = .ok (.ifCond .ge 7, 3) := by decide +kernel
theorem dX7_bestHorse_110 : decode cX7_bestHorse 110 = .ok (.iconst 2, 1) := by decide +kernel
theorem dX7_bestHorse_111 : decode cX7_bestHorse 111 = .ok (.goto 4, 3) := by decide +kernel
theorem dX7_bestHorse_114 : decode cX7_bestHorse 114 = .ok (.iconst 0, 1) := by decide +kernel
theorem dX7_bestHorse_115 : decode cX7_bestHorse 115 = .ok (.invokevirtual 70, 3) := by decide +kernel
theorem dX7_bestHorse_118 : decode cX7_bestHorse 118 = .ok (.ifCond .eq 7, 3) := by decide +kernel
theorem dX7_bestHorse_121 : decode cX7_bestHorse 121 = .ok (.iconst 0, 1) := by decide +kernel
theorem dX7_bestHorse_122 : decode cX7_bestHorse 122 = .ok (.goto 4, 3) := by decide +kernel
theorem dX7_bestHorse_125 : decode cX7_bestHorse 125 = .ok (.iload_n 2, 1) := by decide +kernel
theorem dX7_bestHorse_126 : decode cX7_bestHorse 126 = .ok (.ireturn, 1) := by decide +kernel
theorem dX7_umpire_0 : decode cX7_umpire 0 = .ok (.aload_n 0, 1) := by decide +kernel
theorem dX7_umpire_1 : decode cX7_umpire 1 = .ok (.iload_n 1, 1) := by decide +kernel
theorem dX7_umpire_2 : decode cX7_umpire 2 = .ok (.iconst 1, 1) := by decide +kernel
theorem dX7_umpire_3 : decode cX7_umpire 3 = .ok (.bipush 9, 2) := by decide +kernel
theorem dX7_umpire_5 : decode cX7_umpire 5 = .ok (.invokestatic 58, 3) := by decide +kernel
theorem dX7_umpire_8 : decode cX7_umpire 8 = .ok (.ifCond .eq 7, 3) := by decide +kernel
theorem dX7_umpire_11 : decode cX7_umpire 11 = .ok (.iconst 0, 1) := by decide +kernel
theorem dX7_umpire_12 : decode cX7_umpire 12 = .ok (.goto 4, 3) := by decide +kernel
theorem dX7_umpire_15 : decode cX7_umpire 15 = .ok (.iconst 1, 1) := by decide +kernel
theorem dX7_umpire_16 : decode cX7_umpire 16 = .ok (.invokevirtual 70, 3) := by decide +kernel
theorem dX7_umpire_19 : decode cX7_umpire 19 = .ok (.ifCond .eq 5, 3) := by decide +kernel
theorem dX7_umpire_22 : decode cX7_umpire 22 = .ok (.iconst 0, 1) := by decide +kernel
theorem dX7_umpire_23 : decode cX7_umpire 23 = .ok (.ireturn, 1) := by decide +kernel
theorem dX7_umpire_24 : decode cX7_umpire 24 = .ok (.aload_n 0, 1) := by decide +kernel
theorem dX7_umpire_25 : decode cX7_umpire 25 = .ok (.getfield 7, 3) := by decide +kernel
theorem dX7_umpire_28 : decode cX7_umpire 28 = .ok (.bipush 102, 2) := by decide +kernel
theorem dX7_umpire_30 : decode cX7_umpire 30 = .ok (.iaload, 1) := by decide +kernel
theorem dX7_umpire_31 : decode cX7_umpire 31 = .ok (.iconst 3, 1) := by decide +kernel
theorem dX7_umpire_32 : decode cX7_umpire 32 = .ok (.if_icmp .ne 11, 3) := by decide +kernel
theorem dX7_umpire_35 : decode cX7_umpire 35 = .ok (.aload_n 0, 1) := by decide +kernel
theorem dX7_umpire_36 : decode cX7_umpire 36 = .ok (.iconst 2, 1) := by decide +kernel
theorem dX7_umpire_37 : decode cX7_umpire 37 = .ok (.iconst 1, 1) := by decide +kernel
theorem dX7_umpire_38 : decode cX7_umpire 38 = .ok (.iconst 3, 1) := by decide +kernel
theorem dX7_umpire_39 : decode cX7_umpire 39 = .ok (.invokevirtual 77, 3) := by decide +kernel
theorem dX7_umpire_42 : decode cX7_umpire 42 = .ok (.ireturn, 1) := by decide +kernel
theorem dX7_umpire_43 : decode cX7_umpire 43 = .ok (.aload_n 0, 1) := by decide +kernel
theorem dX7_umpire_44 : decode cX7_umpire 44 = .ok (.aload_n 0, 1) := by decide +kernel
theorem dX7_umpire_45 : decode cX7_umpire 45 = .ok (.getfield 7, 3) := by decide +kernel
theorem dX7_umpire_48 : decode cX7_umpire 48 = .ok (.invokevirtual 62, 3) := by decide +kernel
theorem dX7_umpire_51 : decode cX7_umpire 51 = .ok (.aload_n 0, 1) := by decide +kernel
theorem dX7_umpire_52 : decode cX7_umpire 52 = .ok (.getfield 7, 3) := by decide +kernel
theorem dX7_umpire_55 : decode cX7_umpire 55 = .ok (.bipush 103, 2) := by decide +kernel
theorem dX7_umpire_57 : decode cX7_umpire 57 = .ok (.aload_n 0, 1) := by decide +kernel
theorem dX7_umpire_58 : decode cX7_umpire 58 = .ok (.getfield 7, 3) := by decide +kernel
theorem dX7_umpire_61 : decode cX7_umpire 61 = .ok (.bipush 102, 2) := by decide +kernel
theorem dX7_umpire_63 : decode cX7_umpire 63 = .ok (.iaload, 1) := by decide +kernel
theorem dX7_umpire_64 : decode cX7_umpire 64 = .ok (.iadd, 1) := by decide +kernel
theorem dX7_umpire_65 : decode cX7_umpire 65 = .ok (.iload_n 1, 1) := by decide +kernel
theorem dX7_umpire_66 : decode cX7_umpire 66 = .ok (.iastore, 1) := by decide +kernel
theorem dX7_umpire_67 : decode cX7_umpire 67 = .ok (.aload_n 0, 1) := by decide +kernel
theorem dX7_umpire_68 : decode cX7_umpire 68 = .ok (.getfield 7, 3) := by decide +kernel
theorem dX7_umpire_71 : decode cX7_umpire 71 = .ok (.bipush 102, 2) := by decide +kernel
theorem dX7_umpire_73 : decode cX7_umpire 73 = .ok (.dup2, 1) := by decide +kernel
theorem dX7_umpire_74 : decode cX7_umpire 74 = .ok (.iaload, 1) := by decide +kernel
theorem dX7_umpire_75 : decode cX7_umpire 75 = .ok (.iconst 1, 1) := by decide +kernel
theorem dX7_umpire_76 : decode cX7_umpire 76 = .ok (.iadd, 1) := by decide +kernel
theorem dX7_umpire_77 : decode cX7_umpire 77 = .ok (.iastore, 1) := by decide +kernel
theorem dX7_umpire_78 : decode cX7_umpire 78 = .ok (.aload_n 0, 1) := by decide +kernel
theorem dX7_umpire_79 : decode cX7_umpire 79 = .ok (.getfield 7, 3) := by decide +kernel
theorem dX7_umpire_82 : decode cX7_umpire 82 = .ok (.bipush 102, 2) := by decide +kernel
theorem dX7_umpire_84 : decode cX7_umpire 84 = .ok (.iaload, 1) := by decide +kernel
theorem dX7_umpire_85 : decode cX7_umpire 85 = .ok (.iconst 1, 1) := by decide +kernel
theorem dX7_umpire_86 : decode cX7_umpire 86 = .ok (.isub, 1) := by decide +kernel
theorem dX7_umpire_87 : decode cX7_umpire 87 = .ok (.ireturn, 1) := by decide +kernel
theorem dX7_calls_0 : decode cX7_calls 0 = .ok (.aload_n 0, 1) := by decide +kernel
theorem dX7_calls_1 : decode cX7_calls 1 = .ok (.invokevirtual 123, 3) := by decide +kernel
theorem dX7_calls_4 : decode cX7_calls 4 = .ok (.istore_n 3, 1) := by decide +kernel
theorem dX7_calls_5 : decode cX7_calls 5 = .ok (.aload_n 0, 1) := by decide +kernel
theorem dX7_calls_6 : decode cX7_calls 6 = .ok (.iload_n 2, 1) := by decide +kernel
theorem dX7_calls_7 : decode cX7_calls 7 = .ok (.iconst 3, 1) := by decide +kernel
theorem dX7_calls_8 : decode cX7_calls 8 = .ok (.invokevirtual 98, 3) := by decide +kernel
theorem dX7_calls_11 : decode cX7_calls 11 = .ok (.iconst 1, 1) := by decide +kernel
theorem dX7_calls_12 : decode cX7_calls 12 = .ok (.if_icmp .ne 6, 3) := by decide +kernel
theorem dX7_calls_15 : decode cX7_calls 15 = .ok (.bipush 6, 2) := by decide +kernel
theorem dX7_calls_17 : decode cX7_calls 17 = .ok (.ireturn, 1) := by decide +kernel
theorem dX7_calls_18 : decode cX7_calls 18 = .ok (.aload_n 0, 1) := by decide +kernel
theorem dX7_calls_19 : decode cX7_calls 19 = .ok (.iload_n 2, 1) := by decide +kernel
theorem dX7_calls_20 : decode cX7_calls 20 = .ok (.invokevirtual 94, 3) := by decide +kernel
theorem dX7_calls_23 : decode cX7_calls 23 = .ok (.ifCond .lt 5, 3) := by decide +kernel
theorem dX7_calls_26 : decode cX7_calls 26 = .ok (.iconst 5, 1) := by decide +kernel
theorem dX7_calls_27 : decode cX7_calls 27 = .ok (.ireturn, 1) := by decide +kernel
theorem dX7_calls_28 : decode cX7_calls 28 = .ok (.iload_n 3, 1) := by decide +kernel
theorem dX7_calls_29 : decode cX7_calls 29 = .ok (.aload_n 0, 1) := by decide +kernel
theorem dX7_calls_30 : decode cX7_calls 30 = .ok (.getfield 7, 3) := by decide +kernel
theorem dX7_calls_33 : decode cX7_calls 33 = .ok (.iconst 1, 1) := by decide +kernel
theorem dX7_calls_34 : decode cX7_calls 34 = .ok (.iaload, 1) := by decide +kernel
theorem dX7_calls_35 : decode cX7_calls 35 = .ok (.if_icmp .ne 5, 3) := by decide +kernel
theorem dX7_calls_38 : decode cX7_calls 38 = .ok (.iconst 4, 1) := by decide +kernel
theorem dX7_calls_39 : decode cX7_calls 39 = .ok (.ireturn, 1) := by decide +kernel
theorem dX7_calls_40 : decode cX7_calls 40 = .ok (.aload_n 0, 1) := by decide +kernel
theorem dX7_calls_41 : decode cX7_calls 41 = .ok (.getfield 7, 3) := by decide +kernel
theorem dX7_calls_44 : decode cX7_calls 44 = .ok (.iconst 2, 1) := by decide +kernel
theorem dX7_calls_45 : decode cX7_calls 45 = .ok (.iload_n 3, 1) := by decide +kernel
theorem dX7_calls_46 : decode cX7_calls 46 = .ok (.iadd, 1) := by decide +kernel
theorem dX7_calls_47 : decode cX7_calls 47 = .ok (.iaload, 1) := by decide +kernel
theorem dX7_calls_48 : decode cX7_calls 48 = .ok (.ifCond .le 5, 3) := by decide +kernel
theorem dX7_calls_51 : decode cX7_calls 51 = .ok (.iconst 3, 1) := by decide +kernel
theorem dX7_calls_52 : decode cX7_calls 52 = .ok (.ireturn, 1) := by decide +kernel
theorem dX7_calls_53 : decode cX7_calls 53 = .ok (.aload_n 0, 1) := by decide +kernel
theorem dX7_calls_54 : decode cX7_calls 54 = .ok (.getfield 7, 3) := by decide +kernel
theorem dX7_calls_57 : decode cX7_calls 57 = .ok (.bipush 26, 2) := by decide +kernel
theorem dX7_calls_59 : decode cX7_calls 59 = .ok (.iload_n 3, 1) := by decide +kernel
theorem dX7_calls_60 : decode cX7_calls 60 = .ok (.iadd, 1) := by decide +kernel
theorem dX7_calls_61 : decode cX7_calls 61 = .ok (.iaload, 1) := by decide +kernel
theorem dX7_calls_62 : decode cX7_calls 62 = .ok (.iconst 3, 1) := by decide +kernel
theorem dX7_calls_63 : decode cX7_calls 63 = .ok (.if_icmp .ge 5, 3) := by decide +kernel
theorem dX7_calls_66 : decode cX7_calls 66 = .ok (.iconst 2, 1) := by decide +kernel
theorem dX7_calls_67 : decode cX7_calls 67 = .ok (.ireturn, 1) := by decide +kernel
theorem dX7_calls_68 : decode cX7_calls 68 = .ok (.aload_n 0, 1) := by decide +kernel
theorem dX7_calls_69 : decode cX7_calls 69 = .ok (.iload_n 2, 1) := by decide +kernel
theorem dX7_calls_70 : decode cX7_calls 70 = .ok (.iconst 0, 1) := by decide +kernel
theorem dX7_calls_71 : decode cX7_calls 71 = .ok (.invokevirtual 98, 3) := by decide +kernel
theorem dX7_calls_74 : decode cX7_calls 74 = .ok (.bipush 60, 2) := by decide +kernel
theorem dX7_calls_76 : decode cX7_calls 76 = .ok (.iconst 5, 1) := by decide +kernel
theorem dX7_calls_77 : decode cX7_calls 77 = .ok (.aload_n 0, 1) := by decide +kernel
theorem dX7_calls_78 : decode cX7_calls 78 = .ok (.getfield 7, 3) := by decide +kernel
theorem dX7_calls_81 : decode cX7_calls 81 = .ok (.bipush 103, 2) := by decide +kernel
theorem dX7_calls_83 : decode cX7_calls 83 = .ok (.iload_n 1, 1) := by decide +kernel
theorem dX7_calls_84 : decode cX7_calls 84 = .ok (.iadd, 1) := by decide +kernel
theorem dX7_calls_85 : decode cX7_calls 85 = .ok (.iaload, 1) := by decide +kernel
theorem dX7_calls_86 : decode cX7_calls 86 = .ok (.imul, 1) := by decide +kernel
theorem dX7_calls_87 : decode cX7_calls 87 = .ok (.isub, 1) := by decide +kernel
theorem dX7_calls_88 : decode cX7_calls 88 = .ok (.if_icmp .le 7, 3) := by decide +kernel
theorem dX7_calls_91 : decode cX7_calls 91 = .ok (.iconst 1, 1) := by decide +kernel
theorem dX7_calls_92 : decode cX7_calls 92 = .ok (.goto 4, 3) := by decide +kernel
theorem dX7_calls_95 : decode cX7_calls 95 = .ok (.iconst 0, 1) := by decide +kernel
theorem dX7_calls_96 : decode cX7_calls 96 = .ok (.ireturn, 1) := by decide +kernel
theorem dX7_call_0 : decode cX7_call 0 = .ok (.aload_n 0, 1) := by decide +kernel
theorem dX7_call_1 : decode cX7_call 1 = .ok (.aload_n 0, 1) := by decide +kernel
theorem dX7_call_2 : decode cX7_call 2 = .ok (.iload_n 1, 1) := by decide +kernel
theorem dX7_call_3 : decode cX7_call 3 = .ok (.invokevirtual 126, 3) := by decide +kernel
theorem dX7_call_6 : decode cX7_call 6 = .ok (.ifCond .eq 15, 3) := by decide +kernel
theorem dX7_call_9 : decode cX7_call 9 = .ok (.aload_n 0, 1) := by decide +kernel
theorem dX7_call_10 : decode cX7_call 10 = .ok (.iload_n 2, 1) := by decide +kernel
theorem dX7_call_11 : decode cX7_call 11 = .ok (.invokevirtual 91, 3) := by decide +kernel
theorem dX7_call_14 : decode cX7_call 14 = .ok (.ifCond .eq 7, 3) := by decide +kernel
theorem dX7_call_17 : decode cX7_call 17 = .ok (.iconst 0, 1) := by decide +kernel
theorem dX7_call_18 : decode cX7_call 18 = .ok (.goto 4, 3) := by decide +kernel
theorem dX7_call_21 : decode cX7_call 21 = .ok (.iconst 1, 1) := by decide +kernel
theorem dX7_call_22 : decode cX7_call 22 = .ok (.invokevirtual 70, 3) := by decide +kernel
theorem dX7_call_25 : decode cX7_call 25 = .ok (.ifCond .eq 7, 3) := by decide +kernel
theorem dX7_call_28 : decode cX7_call 28 = .ok (.iconst 0, 1) := by decide +kernel
theorem dX7_call_29 : decode cX7_call 29 = .ok (.goto 9, 3) := by decide +kernel
theorem dX7_call_32 : decode cX7_call 32 = .ok (.aload_n 0, 1) := by decide +kernel
theorem dX7_call_33 : decode cX7_call 33 = .ok (.iload_n 1, 1) := by decide +kernel
theorem dX7_call_34 : decode cX7_call 34 = .ok (.iload_n 2, 1) := by decide +kernel
theorem dX7_call_35 : decode cX7_call 35 = .ok (.invokevirtual 129, 3) := by decide +kernel
theorem dX7_call_38 : decode cX7_call 38 = .ok (.ireturn, 1) := by decide +kernel
theorem dX7_fitIn_0 : decode cX7_fitIn 0 = .ok (.aload_n 0, 1) := by decide +kernel
theorem dX7_fitIn_1 : decode cX7_fitIn 1 = .ok (.aload_n 0, 1) := by decide +kernel
theorem dX7_fitIn_2 : decode cX7_fitIn 2 = .ok (.iload_n 1, 1) := by decide +kernel
theorem dX7_fitIn_3 : decode cX7_fitIn 3 = .ok (.invokevirtual 126, 3) := by decide +kernel
theorem dX7_fitIn_6 : decode cX7_fitIn 6 = .ok (.ifCond .eq 15, 3) := by decide +kernel
theorem dX7_fitIn_9 : decode cX7_fitIn 9 = .ok (.aload_n 0, 1) := by decide +kernel
theorem dX7_fitIn_10 : decode cX7_fitIn 10 = .ok (.iload_n 2, 1) := by decide +kernel
theorem dX7_fitIn_11 : decode cX7_fitIn 11 = .ok (.invokevirtual 91, 3) := by decide +kernel
theorem dX7_fitIn_14 : decode cX7_fitIn 14 = .ok (.ifCond .eq 7, 3) := by decide +kernel
theorem dX7_fitIn_17 : decode cX7_fitIn 17 = .ok (.iconst 0, 1) := by decide +kernel
theorem dX7_fitIn_18 : decode cX7_fitIn 18 = .ok (.goto 4, 3) := by decide +kernel
theorem dX7_fitIn_21 : decode cX7_fitIn 21 = .ok (.iconst 1, 1) := by decide +kernel
theorem dX7_fitIn_22 : decode cX7_fitIn 22 = .ok (.invokevirtual 70, 3) := by decide +kernel
theorem dX7_fitIn_25 : decode cX7_fitIn 25 = .ok (.ifCond .eq 5, 3) := by decide +kernel
theorem dX7_fitIn_28 : decode cX7_fitIn 28 = .ok (.iconst 0, 1) := by decide +kernel
theorem dX7_fitIn_29 : decode cX7_fitIn 29 = .ok (.ireturn, 1) := by decide +kernel
theorem dX7_fitIn_30 : decode cX7_fitIn 30 = .ok (.aload_n 0, 1) := by decide +kernel
theorem dX7_fitIn_31 : decode cX7_fitIn 31 = .ok (.getfield 7, 3) := by decide +kernel
theorem dX7_fitIn_34 : decode cX7_fitIn 34 = .ok (.iconst 0, 1) := by decide +kernel
theorem dX7_fitIn_35 : decode cX7_fitIn 35 = .ok (.aload_n 0, 1) := by decide +kernel
theorem dX7_fitIn_36 : decode cX7_fitIn 36 = .ok (.getfield 22, 3) := by decide +kernel
theorem dX7_fitIn_39 : decode cX7_fitIn 39 = .ok (.iconst 0, 1) := by decide +kernel
theorem dX7_fitIn_40 : decode cX7_fitIn 40 = .ok (.invokestatic 54, 3) := by decide +kernel
theorem dX7_fitIn_43 : decode cX7_fitIn 43 = .ok (.iconst 0, 1) := by decide +kernel
theorem dX7_fitIn_44 : decode cX7_fitIn 44 = .ok (.istore_n 3, 1) := by decide +kernel
theorem dX7_fitIn_45 : decode cX7_fitIn 45 = .ok (.iconst 0, 1) := by decide +kernel
theorem dX7_fitIn_46 : decode cX7_fitIn 46 = .ok (.istore 4, 2) := by decide +kernel
theorem dX7_fitIn_48 : decode cX7_fitIn 48 = .ok (.iload_n 3, 1) := by decide +kernel
theorem dX7_fitIn_49 : decode cX7_fitIn 49 = .ok (.bipush 48, 2) := by decide +kernel
theorem dX7_fitIn_51 : decode cX7_fitIn 51 = .ok (.if_icmp .gt 27, 3) := by decide +kernel
theorem dX7_fitIn_54 : decode cX7_fitIn 54 = .ok (.aload_n 0, 1) := by decide +kernel
theorem dX7_fitIn_55 : decode cX7_fitIn 55 = .ok (.iload_n 1, 1) := by decide +kernel
theorem dX7_fitIn_56 : decode cX7_fitIn 56 = .ok (.iload_n 2, 1) := by decide +kernel
theorem dX7_fitIn_57 : decode cX7_fitIn 57 = .ok (.invokevirtual 129, 3) := by decide +kernel
theorem dX7_fitIn_60 : decode cX7_fitIn 60 = .ok (.ifCond .le 18, 3) := by decide +kernel
theorem dX7_fitIn_63 : decode cX7_fitIn 63 = .ok (.iload 4, 2) := by decide +kernel
theorem dX7_fitIn_65 : decode cX7_fitIn 65 = .ok (.aload_n 0, 1) := by decide +kernel
theorem dX7_fitIn_66 : decode cX7_fitIn 66 = .ok (.invokevirtual 132, 3) := by decide +kernel
theorem dX7_fitIn_69 : decode cX7_fitIn 69 = .ok (.iadd, 1) := by decide +kernel
theorem dX7_fitIn_70 : decode cX7_fitIn 70 = .ok (.istore 4, 2) := by decide +kernel
theorem dX7_fitIn_72 : decode cX7_fitIn 72 = .ok (.iinc 3 1, 3) := by decide +kernel
theorem dX7_fitIn_75 : decode cX7_fitIn 75 = .ok (.goto (-27), 3) := by decide +kernel
theorem dX7_fitIn_78 : decode cX7_fitIn 78 = .ok (.aload_n 0, 1) := by decide +kernel
theorem dX7_fitIn_79 : decode cX7_fitIn 79 = .ok (.getfield 22, 3) := by decide +kernel
theorem dX7_fitIn_82 : decode cX7_fitIn 82 = .ok (.iconst 0, 1) := by decide +kernel
theorem dX7_fitIn_83 : decode cX7_fitIn 83 = .ok (.aload_n 0, 1) := by decide +kernel
theorem dX7_fitIn_84 : decode cX7_fitIn 84 = .ok (.getfield 7, 3) := by decide +kernel
theorem dX7_fitIn_87 : decode cX7_fitIn 87 = .ok (.iconst 0, 1) := by decide +kernel
theorem dX7_fitIn_88 : decode cX7_fitIn 88 = .ok (.invokestatic 54, 3) := by decide +kernel
theorem dX7_fitIn_91 : decode cX7_fitIn 91 = .ok (.aload_n 0, 1) := by decide +kernel
theorem dX7_fitIn_92 : decode cX7_fitIn 92 = .ok (.iload 4, 2) := by decide +kernel
theorem dX7_fitIn_94 : decode cX7_fitIn 94 = .ok (.ifCond .lt 9, 3) := by decide +kernel
theorem dX7_fitIn_97 : decode cX7_fitIn 97 = .ok (.iload_n 3, 1) := by decide +kernel
theorem dX7_fitIn_98 : decode cX7_fitIn 98 = .ok (.bipush 48, 2) := by decide +kernel
theorem dX7_fitIn_100 : decode cX7_fitIn 100 = .ok (.if_icmp .le 7, 3) := by decide +kernel
theorem dX7_fitIn_103 : decode cX7_fitIn 103 = .ok (.iconst 2, 1) := by decide +kernel
theorem dX7_fitIn_104 : decode cX7_fitIn 104 = .ok (.goto 4, 3) := by decide +kernel
theorem dX7_fitIn_107 : decode cX7_fitIn 107 = .ok (.iconst 0, 1) := by decide +kernel
theorem dX7_fitIn_108 : decode cX7_fitIn 108 = .ok (.invokevirtual 70, 3) := by decide +kernel
theorem dX7_fitIn_111 : decode cX7_fitIn 111 = .ok (.ifCond .eq 7, 3) := by decide +kernel
theorem dX7_fitIn_114 : decode cX7_fitIn 114 = .ok (.iconst 0, 1) := by decide +kernel
theorem dX7_fitIn_115 : decode cX7_fitIn 115 = .ok (.goto 4, 3) := by decide +kernel
theorem dX7_fitIn_118 : decode cX7_fitIn 118 = .ok (.iload_n 3, 1) := by decide +kernel
theorem dX7_fitIn_119 : decode cX7_fitIn 119 = .ok (.ireturn, 1) := by decide +kernel
theorem dX7_bestPitch_0 : decode cX7_bestPitch 0 = .ok (.aload_n 0, 1) := by decide +kernel
theorem dX7_bestPitch_1 : decode cX7_bestPitch 1 = .ok (.aload_n 0, 1) := by decide +kernel
theorem dX7_bestPitch_2 : decode cX7_bestPitch 2 = .ok (.iload_n 1, 1) := by decide +kernel
theorem dX7_bestPitch_3 : decode cX7_bestPitch 3 = .ok (.invokevirtual 126, 3) := by decide +kernel
theorem dX7_bestPitch_6 : decode cX7_bestPitch 6 = .ok (.ifCond .eq 7, 3) := by decide +kernel
theorem dX7_bestPitch_9 : decode cX7_bestPitch 9 = .ok (.iconst 0, 1) := by decide +kernel
theorem dX7_bestPitch_10 : decode cX7_bestPitch 10 = .ok (.goto 4, 3) := by decide +kernel
theorem dX7_bestPitch_13 : decode cX7_bestPitch 13 = .ok (.iconst 1, 1) := by decide +kernel
theorem dX7_bestPitch_14 : decode cX7_bestPitch 14 = .ok (.invokevirtual 70, 3) := by decide +kernel
theorem dX7_bestPitch_17 : decode cX7_bestPitch 17 = .ok (.ifCond .eq 5, 3) := by decide +kernel
theorem dX7_bestPitch_20 : decode cX7_bestPitch 20 = .ok (.iconst 0, 1) := by decide +kernel
theorem dX7_bestPitch_21 : decode cX7_bestPitch 21 = .ok (.ireturn, 1) := by decide +kernel
theorem dX7_bestPitch_22 : decode cX7_bestPitch 22 = .ok (.iconst (-1), 1) := by decide +kernel
theorem dX7_bestPitch_23 : decode cX7_bestPitch 23 = .ok (.istore_n 2, 1) := by decide +kernel
theorem dX7_bestPitch_24 : decode cX7_bestPitch 24 = .ok (.iconst 0, 1) := by decide +kernel
theorem dX7_bestPitch_25 : decode cX7_bestPitch 25 = .ok (.istore_n 3, 1) := by decide +kernel
theorem dX7_bestPitch_26 : decode cX7_bestPitch 26 = .ok (.iload_n 3, 1) := by decide +kernel
theorem dX7_bestPitch_27 : decode cX7_bestPitch 27 = .ok (.aload_n 0, 1) := by decide +kernel
theorem dX7_bestPitch_28 : decode cX7_bestPitch 28 = .ok (.getfield 7, 3) := by decide +kernel
theorem dX7_bestPitch_31 : decode cX7_bestPitch 31 = .ok (.bipush 50, 2) := by decide +kernel
theorem dX7_bestPitch_33 : decode cX7_bestPitch 33 = .ok (.iaload, 1) := by decide +kernel
theorem dX7_bestPitch_34 : decode cX7_bestPitch 34 = .ok (.if_icmp .ge 56, 3) := by decide +kernel
theorem dX7_bestPitch_37 : decode cX7_bestPitch 37 = .ok (.aload_n 0, 1) := by decide +kernel
theorem dX7_bestPitch_38 : decode cX7_bestPitch 38 = .ok (.iload_n 1, 1) := by decide +kernel
theorem dX7_bestPitch_39 : decode cX7_bestPitch 39 = .ok (.iload_n 3, 1) := by decide +kernel
theorem dX7_bestPitch_40 : decode cX7_bestPitch 40 = .ok (.invokevirtual 129, 3) := by decide +kernel
theorem dX7_bestPitch_43 : decode cX7_bestPitch 43 = .ok (.ifCond .le 6, 3) := by decide +kernel
theorem dX7_bestPitch_46 : decode cX7_bestPitch 46 = .ok (.goto 38, 3) := by decide +kernel
theorem dX7_bestPitch_49 : decode cX7_bestPitch 49 = .ok (.iload_n 2, 1) := by decide +kernel
theorem dX7_bestPitch_50 : decode cX7_bestPitch 50 = .ok (.ifCond .lt 32, 3) := by decide +kernel
theorem dX7_bestPitch_53 : decode cX7_bestPitch 53 = .ok (.aload_n 0, 1) := by decide +kernel
theorem dX7_bestPitch_54 : decode cX7_bestPitch 54 = .ok (.iload_n 3, 1) := by decide +kernel
theorem dX7_bestPitch_55 : decode cX7_bestPitch 55 = .ok (.iconst 1, 1) := by decide +kernel
theorem dX7_bestPitch_56 : decode cX7_bestPitch 56 = .ok (.invokevirtual 98, 3) := by decide +kernel
theorem dX7_bestPitch_59 : decode cX7_bestPitch 59 = .ok (.aload_n 0, 1) := by decide +kernel
theorem dX7_bestPitch_60 : decode cX7_bestPitch 60 = .ok (.iload_n 3, 1) := by decide +kernel
theorem dX7_bestPitch_61 : decode cX7_bestPitch 61 = .ok (.iconst 2, 1) := by decide +kernel
theorem dX7_bestPitch_62 : decode cX7_bestPitch 62 = .ok (.invokevirtual 98, 3) := by decide +kernel
theorem dX7_bestPitch_65 : decode cX7_bestPitch 65 = .ok (.isub, 1) := by decide +kernel
theorem dX7_bestPitch_66 : decode cX7_bestPitch 66 = .ok (.aload_n 0, 1) := by decide +kernel
theorem dX7_bestPitch_67 : decode cX7_bestPitch 67 = .ok (.iload_n 2, 1) := by decide +kernel
theorem dX7_bestPitch_68 : decode cX7_bestPitch 68 = .ok (.iconst 1, 1) := by decide +kernel
theorem dX7_bestPitch_69 : decode cX7_bestPitch 69 = .ok (.invokevirtual 98, 3) := by decide +kernel
theorem dX7_bestPitch_72 : decode cX7_bestPitch 72 = .ok (.aload_n 0, 1) := by decide +kernel
theorem dX7_bestPitch_73 : decode cX7_bestPitch 73 = .ok (.iload_n 2, 1) := by decide +kernel
theorem dX7_bestPitch_74 : decode cX7_bestPitch 74 = .ok (.iconst 2, 1) := by decide +kernel
theorem dX7_bestPitch_75 : decode cX7_bestPitch 75 = .ok (.invokevirtual 98, 3) := by decide +kernel
theorem dX7_bestPitch_78 : decode cX7_bestPitch 78 = .ok (.isub, 1) := by decide +kernel
theorem dX7_bestPitch_79 : decode cX7_bestPitch 79 = .ok (.if_icmp .le 5, 3) := by decide +kernel
theorem dX7_bestPitch_82 : decode cX7_bestPitch 82 = .ok (.iload_n 3, 1) := by decide +kernel
theorem dX7_bestPitch_83 : decode cX7_bestPitch 83 = .ok (.istore_n 2, 1) := by decide +kernel
theorem dX7_bestPitch_84 : decode cX7_bestPitch 84 = .ok (.iinc 3 1, 3) := by decide +kernel
theorem dX7_bestPitch_87 : decode cX7_bestPitch 87 = .ok (.goto (-61), 3) := by decide +kernel
theorem dX7_bestPitch_90 : decode cX7_bestPitch 90 = .ok (.aload_n 0, 1) := by decide +kernel
theorem dX7_bestPitch_91 : decode cX7_bestPitch 91 = .ok (.iload_n 2, 1) := by decide +kernel
theorem dX7_bestPitch_92 : decode cX7_bestPitch 92 = .ok (.ifCond .ge 7, 3) := by decide +kernel
theorem dX7_bestPitch_95 : decode cX7_bestPitch 95 = .ok (.iconst 2, 1) := by decide +kernel
theorem dX7_bestPitch_96 : decode cX7_bestPitch 96 = .ok (.goto 4, 3) := by decide +kernel
theorem dX7_bestPitch_99 : decode cX7_bestPitch 99 = .ok (.iconst 0, 1) := by decide +kernel
theorem dX7_bestPitch_100 : decode cX7_bestPitch 100 = .ok (.invokevirtual 70, 3) := by decide +kernel
theorem dX7_bestPitch_103 : decode cX7_bestPitch 103 = .ok (.ifCond .eq 7, 3) := by decide +kernel
theorem dX7_bestPitch_106 : decode cX7_bestPitch 106 = .ok (.iconst 0, 1) := by decide +kernel
theorem dX7_bestPitch_107 : decode cX7_bestPitch 107 = .ok (.goto 4, 3) := by decide +kernel
theorem dX7_bestPitch_110 : decode cX7_bestPitch 110 = .ok (.iload_n 2, 1) := by decide +kernel
theorem dX7_bestPitch_111 : decode cX7_bestPitch 111 = .ok (.ireturn, 1) := by decide +kernel
theorem dX7_innings_0 : decode cX7_innings 0 = .ok (.aload_n 0, 1) := by decide +kernel
theorem dX7_innings_1 : decode cX7_innings 1 = .ok (.aload_n 0, 1) := by decide +kernel
theorem dX7_innings_2 : decode cX7_innings 2 = .ok (.iload_n 1, 1) := by decide +kernel
theorem dX7_innings_3 : decode cX7_innings 3 = .ok (.invokevirtual 91, 3) := by decide +kernel
theorem dX7_innings_6 : decode cX7_innings 6 = .ok (.ifCond .eq 11, 3) := by decide +kernel
theorem dX7_innings_9 : decode cX7_innings 9 = .ok (.aload_n 0, 1) := by decide +kernel
theorem dX7_innings_10 : decode cX7_innings 10 = .ok (.iload_n 2, 1) := by decide +kernel
theorem dX7_innings_11 : decode cX7_innings 11 = .ok (.invokevirtual 126, 3) := by decide +kernel
theorem dX7_innings_14 : decode cX7_innings 14 = .ok (.ifCond .ne 7, 3) := by decide +kernel
theorem dX7_innings_17 : decode cX7_innings 17 = .ok (.iconst 1, 1) := by decide +kernel
theorem dX7_innings_18 : decode cX7_innings 18 = .ok (.goto 19, 3) := by decide +kernel
theorem dX7_innings_21 : decode cX7_innings 21 = .ok (.iload_n 3, 1) := by decide +kernel
theorem dX7_innings_22 : decode cX7_innings 22 = .ok (.bipush 6, 2) := by decide +kernel
theorem dX7_innings_24 : decode cX7_innings 24 = .ok (.bipush 120, 2) := by decide +kernel
theorem dX7_innings_26 : decode cX7_innings 26 = .ok (.invokestatic 58, 3) := by decide +kernel
theorem dX7_innings_29 : decode cX7_innings 29 = .ok (.ifCond .eq 7, 3) := by decide +kernel
theorem dX7_innings_32 : decode cX7_innings 32 = .ok (.iconst 0, 1) := by decide +kernel
theorem dX7_innings_33 : decode cX7_innings 33 = .ok (.goto 4, 3) := by decide +kernel
theorem dX7_innings_36 : decode cX7_innings 36 = .ok (.iconst 2, 1) := by decide +kernel
theorem dX7_innings_37 : decode cX7_innings 37 = .ok (.invokevirtual 70, 3) := by decide +kernel
theorem dX7_innings_40 : decode cX7_innings 40 = .ok (.ifCond .eq 5, 3) := by decide +kernel
theorem dX7_innings_43 : decode cX7_innings 43 = .ok (.iconst 0, 1) := by decide +kernel
theorem dX7_innings_44 : decode cX7_innings 44 = .ok (.ireturn, 1) := by decide +kernel
theorem dX7_innings_45 : decode cX7_innings 45 = .ok (.aload_n 0, 1) := by decide +kernel
theorem dX7_innings_46 : decode cX7_innings 46 = .ok (.getfield 7, 3) := by decide +kernel
theorem dX7_innings_49 : decode cX7_innings 49 = .ok (.bipush 106, 2) := by decide +kernel
theorem dX7_innings_51 : decode cX7_innings 51 = .ok (.iaload, 1) := by decide +kernel
theorem dX7_innings_52 : decode cX7_innings 52 = .ok (.bipush 12, 2) := by decide +kernel
theorem dX7_innings_54 : decode cX7_innings 54 = .ok (.if_icmp .ne 12, 3) := by decide +kernel
theorem dX7_innings_57 : decode cX7_innings 57 = .ok (.aload_n 0, 1) := by decide +kernel
theorem dX7_innings_58 : decode cX7_innings 58 = .ok (.iconst 3, 1) := by decide +kernel
theorem dX7_innings_59 : decode cX7_innings 59 = .ok (.iconst 1, 1) := by decide +kernel
theorem dX7_innings_60 : decode cX7_innings 60 = .ok (.bipush 12, 2) := by decide +kernel
theorem dX7_innings_62 : decode cX7_innings 62 = .ok (.invokevirtual 77, 3) := by decide +kernel
theorem dX7_innings_65 : decode cX7_innings 65 = .ok (.ireturn, 1) := by decide +kernel
theorem dX7_innings_66 : decode cX7_innings 66 = .ok (.aload_n 0, 1) := by decide +kernel
theorem dX7_innings_67 : decode cX7_innings 67 = .ok (.iload_n 1, 1) := by decide +kernel
theorem dX7_innings_68 : decode cX7_innings 68 = .ok (.invokevirtual 101, 3) := by decide +kernel
theorem dX7_innings_71 : decode cX7_innings 71 = .ok (.ifCond .lt 15, 3) := by decide +kernel
theorem dX7_innings_74 : decode cX7_innings 74 = .ok (.aload_n 0, 1) := by decide +kernel
theorem dX7_innings_75 : decode cX7_innings 75 = .ok (.iconst 3, 1) := by decide +kernel
theorem dX7_innings_76 : decode cX7_innings 76 = .ok (.iconst 5, 1) := by decide +kernel
theorem dX7_innings_77 : decode cX7_innings 77 = .ok (.aload_n 0, 1) := by decide +kernel
theorem dX7_innings_78 : decode cX7_innings 78 = .ok (.iload_n 1, 1) := by decide +kernel
theorem dX7_innings_79 : decode cX7_innings 79 = .ok (.invokevirtual 101, 3) := by decide +kernel
theorem dX7_innings_82 : decode cX7_innings 82 = .ok (.invokevirtual 77, 3) := by decide +kernel
theorem dX7_innings_85 : decode cX7_innings 85 = .ok (.ireturn, 1) := by decide +kernel
theorem dX7_innings_86 : decode cX7_innings 86 = .ok (.aload_n 0, 1) := by decide +kernel
theorem dX7_innings_87 : decode cX7_innings 87 = .ok (.iload_n 2, 1) := by decide +kernel
theorem dX7_innings_88 : decode cX7_innings 88 = .ok (.iload_n 1, 1) := by decide +kernel
theorem dX7_innings_89 : decode cX7_innings 89 = .ok (.invokevirtual 129, 3) := by decide +kernel
theorem dX7_innings_92 : decode cX7_innings 92 = .ok (.ifCond .le 17, 3) := by decide +kernel
theorem dX7_innings_95 : decode cX7_innings 95 = .ok (.aload_n 0, 1) := by decide +kernel
theorem dX7_innings_96 : decode cX7_innings 96 = .ok (.iconst 3, 1) := by decide +kernel
theorem dX7_innings_97 : decode cX7_innings 97 = .ok (.bipush 8, 2) := by decide +kernel
theorem dX7_innings_99 : decode cX7_innings 99 = .ok (.aload_n 0, 1) := by decide +kernel
theorem dX7_innings_100 : decode cX7_innings 100 = .ok (.iload_n 2, 1) := by decide +kernel
theorem dX7_innings_101 : decode cX7_innings 101 = .ok (.iload_n 1, 1) := by decide +kernel
theorem dX7_innings_102 : decode cX7_innings 102 = .ok (.invokevirtual 129, 3) := by decide +kernel
theorem dX7_innings_105 : decode cX7_innings 105 = .ok (.invokevirtual 77, 3) := by decide +kernel
theorem dX7_innings_108 : decode cX7_innings 108 = .ok (.ireturn, 1) := by decide +kernel
theorem dX7_innings_109 : decode cX7_innings 109 = .ok (.aload_n 0, 1) := by decide +kernel
theorem dX7_innings_110 : decode cX7_innings 110 = .ok (.aload_n 0, 1) := by decide +kernel
theorem dX7_innings_111 : decode cX7_innings 111 = .ok (.getfield 7, 3) := by decide +kernel
theorem dX7_innings_114 : decode cX7_innings 114 = .ok (.invokevirtual 62, 3) := by decide +kernel
theorem dX7_innings_117 : decode cX7_innings 117 = .ok (.aload_n 0, 1) := by decide +kernel
theorem dX7_innings_118 : decode cX7_innings 118 = .ok (.getfield 7, 3) := by decide +kernel
theorem dX7_innings_121 : decode cX7_innings 121 = .ok (.bipush 106, 2) := by decide +kernel
theorem dX7_innings_123 : decode cX7_innings 123 = .ok (.iaload, 1) := by decide +kernel
theorem dX7_innings_124 : decode cX7_innings 124 = .ok (.istore 4, 2) := by decide +kernel
theorem dX7_innings_126 : decode cX7_innings 126 = .ok (.aload_n 0, 1) := by decide +kernel
theorem dX7_innings_127 : decode cX7_innings 127 = .ok (.getfield 7, 3) := by decide +kernel
theorem dX7_innings_130 : decode cX7_innings 130 = .ok (.bipush 106, 2) := by decide +kernel
theorem dX7_innings_132 : decode cX7_innings 132 = .ok (.dup2, 1) := by decide +kernel
theorem dX7_innings_133 : decode cX7_innings 133 = .ok (.iaload, 1) := by decide +kernel
theorem dX7_innings_134 : decode cX7_innings 134 = .ok (.iconst 1, 1) := by decide +kernel
theorem dX7_innings_135 : decode cX7_innings 135 = .ok (.iadd, 1) := by decide +kernel
theorem dX7_innings_136 : decode cX7_innings 136 = .ok (.iastore, 1) := by decide +kernel
theorem dX7_innings_137 : decode cX7_innings 137 = .ok (.iconst 0, 1) := by decide +kernel
theorem dX7_innings_138 : decode cX7_innings 138 = .ok (.istore 5, 2) := by decide +kernel
theorem dX7_innings_140 : decode cX7_innings 140 = .ok (.iload 5, 2) := by decide +kernel
theorem dX7_innings_142 : decode cX7_innings 142 = .ok (.bipush 14, 2) := by decide +kernel
theorem dX7_innings_144 : decode cX7_innings 144 = .ok (.if_icmp .ge 18, 3) := by decide +kernel
theorem dX7_innings_147 : decode cX7_innings 147 = .ok (.aload_n 0, 1) := by decide +kernel
theorem dX7_innings_148 : decode cX7_innings 148 = .ok (.iload 4, 2) := by decide +kernel
theorem dX7_innings_150 : decode cX7_innings 150 = .ok (.iload 5, 2) := by decide +kernel
theorem dX7_innings_152 : decode cX7_innings 152 = .ok (.iconst 0, 1) := by decide +kernel
theorem dX7_innings_153 : decode cX7_innings 153 = .ok (.invokevirtual 135, 3) := by decide +kernel
theorem dX7_innings_156 : decode cX7_innings 156 = .ok (.iinc 5 1, 3) := by decide +kernel
theorem dX7_innings_159 : decode cX7_innings 159 = .ok (.goto (-19), 3) := by decide +kernel
theorem dX7_innings_162 : decode cX7_innings 162 = .ok (.aload_n 0, 1) := by decide +kernel
theorem dX7_innings_163 : decode cX7_innings 163 = .ok (.iload 4, 2) := by decide +kernel
theorem dX7_innings_165 : decode cX7_innings 165 = .ok (.iconst 0, 1) := by decide +kernel
theorem dX7_innings_166 : decode cX7_innings 166 = .ok (.iload_n 1, 1) := by decide +kernel
theorem dX7_innings_167 : decode cX7_innings 167 = .ok (.invokevirtual 135, 3) := by decide +kernel
theorem dX7_innings_170 : decode cX7_innings 170 = .ok (.aload_n 0, 1) := by decide +kernel
theorem dX7_innings_171 : decode cX7_innings 171 = .ok (.iload 4, 2) := by decide +kernel
theorem dX7_innings_173 : decode cX7_innings 173 = .ok (.iconst 1, 1) := by decide +kernel
theorem dX7_innings_174 : decode cX7_innings 174 = .ok (.iload_n 2, 1) := by decide +kernel
theorem dX7_innings_175 : decode cX7_innings 175 = .ok (.invokevirtual 135, 3) := by decide +kernel
theorem dX7_innings_178 : decode cX7_innings 178 = .ok (.aload_n 0, 1) := by decide +kernel
theorem dX7_innings_179 : decode cX7_innings 179 = .ok (.iload 4, 2) := by decide +kernel
theorem dX7_innings_181 : decode cX7_innings 181 = .ok (.iconst 2, 1) := by decide +kernel
theorem dX7_innings_182 : decode cX7_innings 182 = .ok (.iload_n 3, 1) := by decide +kernel
theorem dX7_innings_183 : decode cX7_innings 183 = .ok (.invokevirtual 135, 3) := by decide +kernel
theorem dX7_innings_186 : decode cX7_innings 186 = .ok (.iload 4, 2) := by decide +kernel
theorem dX7_innings_188 : decode cX7_innings 188 = .ok (.ireturn, 1) := by decide +kernel
theorem dX7_ball_0 : decode cX7_ball 0 = .ok (.aload_n 0, 1) := by decide +kernel
theorem dX7_ball_1 : decode cX7_ball 1 = .ok (.iload_n 1, 1) := by decide +kernel
theorem dX7_ball_2 : decode cX7_ball 2 = .ok (.iconst 0, 1) := by decide +kernel
theorem dX7_ball_3 : decode cX7_ball 3 = .ok (.invokevirtual 88, 3) := by decide +kernel
theorem dX7_ball_6 : decode cX7_ball 6 = .ok (.istore_n 2, 1) := by decide +kernel
theorem dX7_ball_7 : decode cX7_ball 7 = .ok (.aload_n 0, 1) := by decide +kernel
theorem dX7_ball_8 : decode cX7_ball 8 = .ok (.iload_n 1, 1) := by decide +kernel
theorem dX7_ball_9 : decode cX7_ball 9 = .ok (.iconst 3, 1) := by decide +kernel
theorem dX7_ball_10 : decode cX7_ball 10 = .ok (.invokevirtual 88, 3) := by decide +kernel
theorem dX7_ball_13 : decode cX7_ball 13 = .ok (.istore_n 3, 1) := by decide +kernel
theorem dX7_ball_14 : decode cX7_ball 14 = .ok (.aload_n 0, 1) := by decide +kernel
theorem dX7_ball_15 : decode cX7_ball 15 = .ok (.iload_n 2, 1) := by decide +kernel
theorem dX7_ball_16 : decode cX7_ball 16 = .ok (.iconst 1, 1) := by decide +kernel
theorem dX7_ball_17 : decode cX7_ball 17 = .ok (.invokevirtual 98, 3) := by decide +kernel
theorem dX7_ball_20 : decode cX7_ball 20 = .ok (.iconst 3, 1) := by decide +kernel
theorem dX7_ball_21 : decode cX7_ball 21 = .ok (.iload_n 3, 1) := by decide +kernel
theorem dX7_ball_22 : decode cX7_ball 22 = .ok (.imul, 1) := by decide +kernel
theorem dX7_ball_23 : decode cX7_ball 23 = .ok (.iadd, 1) := by decide +kernel
theorem dX7_ball_24 : decode cX7_ball 24 = .ok (.aload_n 0, 1) := by decide +kernel
theorem dX7_ball_25 : decode cX7_ball 25 = .ok (.iload_n 2, 1) := by decide +kernel
theorem dX7_ball_26 : decode cX7_ball 26 = .ok (.iconst 2, 1) := by decide +kernel
theorem dX7_ball_27 : decode cX7_ball 27 = .ok (.invokevirtual 98, 3) := by decide +kernel
theorem dX7_ball_30 : decode cX7_ball 30 = .ok (.iadd, 1) := by decide +kernel
theorem dX7_ball_31 : decode cX7_ball 31 = .ok (.bipush 7, 2) := by decide +kernel
theorem dX7_ball_33 : decode cX7_ball 33 = .ok (.irem, 1) := by decide +kernel
theorem dX7_ball_34 : decode cX7_ball 34 = .ok (.istore 4, 2) := by decide +kernel
theorem dX7_ball_36 : decode cX7_ball 36 = .ok (.iload 4, 2) := by decide +kernel
theorem dX7_ball_38 : decode cX7_ball 38 = .ok (.iconst 5, 1) := by decide +kernel
theorem dX7_ball_39 : decode cX7_ball 39 = .ok (.if_icmp .ne 7, 3) := by decide +kernel
theorem dX7_ball_42 : decode cX7_ball 42 = .ok (.iconst 0, 1) := by decide +kernel
theorem dX7_ball_43 : decode cX7_ball 43 = .ok (.goto 5, 3) := by decide +kernel
theorem dX7_ball_46 : decode cX7_ball 46 = .ok (.iload 4, 2) := by decide +kernel
theorem dX7_ball_48 : decode cX7_ball 48 = .ok (.istore 5, 2) := by decide +kernel
theorem dX7_ball_50 : decode cX7_ball 50 = .ok (.aload_n 0, 1) := by decide +kernel
theorem dX7_ball_51 : decode cX7_ball 51 = .ok (.iload_n 1, 1) := by decide +kernel
theorem dX7_ball_52 : decode cX7_ball 52 = .ok (.bipush 7, 2) := by decide +kernel
theorem dX7_ball_54 : decode cX7_ball 54 = .ok (.iload 4, 2) := by decide +kernel
theorem dX7_ball_56 : decode cX7_ball 56 = .ok (.iadd, 1) := by decide +kernel
theorem dX7_ball_57 : decode cX7_ball 57 = .ok (.aload_n 0, 1) := by decide +kernel
theorem dX7_ball_58 : decode cX7_ball 58 = .ok (.iload_n 1, 1) := by decide +kernel
theorem dX7_ball_59 : decode cX7_ball 59 = .ok (.bipush 7, 2) := by decide +kernel
theorem dX7_ball_61 : decode cX7_ball 61 = .ok (.iload 4, 2) := by decide +kernel
theorem dX7_ball_63 : decode cX7_ball 63 = .ok (.iadd, 1) := by decide +kernel
theorem dX7_ball_64 : decode cX7_ball 64 = .ok (.invokevirtual 88, 3) := by decide +kernel
theorem dX7_ball_67 : decode cX7_ball 67 = .ok (.iconst 1, 1) := by decide +kernel
theorem dX7_ball_68 : decode cX7_ball 68 = .ok (.iadd, 1) := by decide +kernel
theorem dX7_ball_69 : decode cX7_ball 69 = .ok (.invokevirtual 135, 3) := by decide +kernel
theorem dX7_ball_72 : decode cX7_ball 72 = .ok (.aload_n 0, 1) := by decide +kernel
theorem dX7_ball_73 : decode cX7_ball 73 = .ok (.iload_n 1, 1) := by decide +kernel
theorem dX7_ball_74 : decode cX7_ball 74 = .ok (.iconst 3, 1) := by decide +kernel
theorem dX7_ball_75 : decode cX7_ball 75 = .ok (.iload_n 3, 1) := by decide +kernel
theorem dX7_ball_76 : decode cX7_ball 76 = .ok (.iconst 1, 1) := by decide +kernel
theorem dX7_ball_77 : decode cX7_ball 77 = .ok (.iadd, 1) := by decide +kernel
theorem dX7_ball_78 : decode cX7_ball 78 = .ok (.invokevirtual 135, 3) := by decide +kernel
theorem dX7_ball_81 : decode cX7_ball 81 = .ok (.aload_n 0, 1) := by decide +kernel
theorem dX7_ball_82 : decode cX7_ball 82 = .ok (.iload_n 1, 1) := by decide +kernel
theorem dX7_ball_83 : decode cX7_ball 83 = .ok (.iconst 4, 1) := by decide +kernel
theorem dX7_ball_84 : decode cX7_ball 84 = .ok (.aload_n 0, 1) := by decide +kernel
theorem dX7_ball_85 : decode cX7_ball 85 = .ok (.iload_n 1, 1) := by decide +kernel
theorem dX7_ball_86 : decode cX7_ball 86 = .ok (.iconst 4, 1) := by decide +kernel
theorem dX7_ball_87 : decode cX7_ball 87 = .ok (.invokevirtual 88, 3) := by decide +kernel
theorem dX7_ball_90 : decode cX7_ball 90 = .ok (.iload 5, 2) := by decide +kernel
theorem dX7_ball_92 : decode cX7_ball 92 = .ok (.iadd, 1) := by decide +kernel
theorem dX7_ball_93 : decode cX7_ball 93 = .ok (.invokevirtual 135, 3) := by decide +kernel
theorem dX7_ball_96 : decode cX7_ball 96 = .ok (.iload 4, 2) := by decide +kernel
theorem dX7_ball_98 : decode cX7_ball 98 = .ok (.iconst 5, 1) := by decide +kernel
theorem dX7_ball_99 : decode cX7_ball 99 = .ok (.if_icmp .ne 17, 3) := by decide +kernel
theorem dX7_ball_102 : decode cX7_ball 102 = .ok (.aload_n 0, 1) := by decide +kernel
theorem dX7_ball_103 : decode cX7_ball 103 = .ok (.iload_n 1, 1) := by decide +kernel
theorem dX7_ball_104 : decode cX7_ball 104 = .ok (.iconst 5, 1) := by decide +kernel
theorem dX7_ball_105 : decode cX7_ball 105 = .ok (.aload_n 0, 1) := by decide +kernel
theorem dX7_ball_106 : decode cX7_ball 106 = .ok (.iload_n 1, 1) := by decide +kernel
theorem dX7_ball_107 : decode cX7_ball 107 = .ok (.iconst 5, 1) := by decide +kernel
theorem dX7_ball_108 : decode cX7_ball 108 = .ok (.invokevirtual 88, 3) := by decide +kernel
theorem dX7_ball_111 : decode cX7_ball 111 = .ok (.iconst 1, 1) := by decide +kernel
theorem dX7_ball_112 : decode cX7_ball 112 = .ok (.iadd, 1) := by decide +kernel
theorem dX7_ball_113 : decode cX7_ball 113 = .ok (.invokevirtual 135, 3) := by decide +kernel
theorem dX7_ball_116 : decode cX7_ball 116 = .ok (.iload_n 3, 1) := by decide +kernel
theorem dX7_ball_117 : decode cX7_ball 117 = .ok (.bipush 6, 2) := by decide +kernel
theorem dX7_ball_119 : decode cX7_ball 119 = .ok (.irem, 1) := by decide +kernel
theorem dX7_ball_120 : decode cX7_ball 120 = .ok (.iconst 5, 1) := by decide +kernel
theorem dX7_ball_121 : decode cX7_ball 121 = .ok (.if_icmp .ne 21, 3) := by decide +kernel
theorem dX7_ball_124 : decode cX7_ball 124 = .ok (.aload_n 0, 1) := by decide +kernel
theorem dX7_ball_125 : decode cX7_ball 125 = .ok (.iload_n 2, 1) := by decide +kernel
theorem dX7_ball_126 : decode cX7_ball 126 = .ok (.iconst 1, 1) := by decide +kernel
theorem dX7_ball_127 : decode cX7_ball 127 = .ok (.iconst 0, 1) := by decide +kernel
theorem dX7_ball_128 : decode cX7_ball 128 = .ok (.aload_n 0, 1) := by decide +kernel
theorem dX7_ball_129 : decode cX7_ball 129 = .ok (.iload_n 2, 1) := by decide +kernel
theorem dX7_ball_130 : decode cX7_ball 130 = .ok (.iconst 1, 1) := by decide +kernel
theorem dX7_ball_131 : decode cX7_ball 131 = .ok (.invokevirtual 98, 3) := by decide +kernel
theorem dX7_ball_134 : decode cX7_ball 134 = .ok (.iconst 1, 1) := by decide +kernel
theorem dX7_ball_135 : decode cX7_ball 135 = .ok (.isub, 1) := by decide +kernel
theorem dX7_ball_136 : decode cX7_ball 136 = .ok (.invokestatic 138, 3) := by decide +kernel
theorem dX7_ball_139 : decode cX7_ball 139 = .ok (.invokevirtual 81, 3) := by decide +kernel
theorem dX7_ball_142 : decode cX7_ball 142 = .ok (.aload_n 0, 1) := by decide +kernel
theorem dX7_ball_143 : decode cX7_ball 143 = .ok (.iload_n 2, 1) := by decide +kernel
theorem dX7_ball_144 : decode cX7_ball 144 = .ok (.iconst 4, 1) := by decide +kernel
theorem dX7_ball_145 : decode cX7_ball 145 = .ok (.aload_n 0, 1) := by decide +kernel
theorem dX7_ball_146 : decode cX7_ball 146 = .ok (.iload_n 2, 1) := by decide +kernel
theorem dX7_ball_147 : decode cX7_ball 147 = .ok (.iconst 4, 1) := by decide +kernel
theorem dX7_ball_148 : decode cX7_ball 148 = .ok (.invokevirtual 98, 3) := by decide +kernel
theorem dX7_ball_151 : decode cX7_ball 151 = .ok (.iconst 1, 1) := by decide +kernel
theorem dX7_ball_152 : decode cX7_ball 152 = .ok (.iadd, 1) := by decide +kernel
theorem dX7_ball_153 : decode cX7_ball 153 = .ok (.invokevirtual 81, 3) := by decide +kernel
theorem dX7_ball_156 : decode cX7_ball 156 = .ok (.iload_n 3, 1) := by decide +kernel
theorem dX7_ball_157 : decode cX7_ball 157 = .ok (.iconst 1, 1) := by decide +kernel
theorem dX7_ball_158 : decode cX7_ball 158 = .ok (.iadd, 1) := by decide +kernel
theorem dX7_ball_159 : decode cX7_ball 159 = .ok (.aload_n 0, 1) := by decide +kernel
theorem dX7_ball_160 : decode cX7_ball 160 = .ok (.iload_n 1, 1) := by decide +kernel
theorem dX7_ball_161 : decode cX7_ball 161 = .ok (.iconst 2, 1) := by decide +kernel
theorem dX7_ball_162 : decode cX7_ball 162 = .ok (.invokevirtual 88, 3) := by decide +kernel
theorem dX7_ball_165 : decode cX7_ball 165 = .ok (.if_icmp .eq 14, 3) := by decide +kernel
theorem dX7_ball_168 : decode cX7_ball 168 = .ok (.aload_n 0, 1) := by decide +kernel
theorem dX7_ball_169 : decode cX7_ball 169 = .ok (.iload_n 1, 1) := by decide +kernel
theorem dX7_ball_170 : decode cX7_ball 170 = .ok (.iconst 5, 1) := by decide +kernel
theorem dX7_ball_171 : decode cX7_ball 171 = .ok (.invokevirtual 88, 3) := by decide +kernel
theorem dX7_ball_174 : decode cX7_ball 174 = .ok (.bipush 10, 2) := by decide +kernel
theorem dX7_ball_176 : decode cX7_ball 176 = .ok (.if_icmp .ne 11, 3) := by decide +kernel
theorem dX7_ball_179 : decode cX7_ball 179 = .ok (.aload_n 0, 1) := by decide +kernel
theorem dX7_ball_180 : decode cX7_ball 180 = .ok (.iload_n 1, 1) := by decide +kernel
theorem dX7_ball_181 : decode cX7_ball 181 = .ok (.bipush 6, 2) := by decide +kernel
theorem dX7_ball_183 : decode cX7_ball 183 = .ok (.iconst 1, 1) := by decide +kernel
theorem dX7_ball_184 : decode cX7_ball 184 = .ok (.invokevirtual 135, 3) := by decide +kernel
theorem dX7_ball_187 : decode cX7_ball 187 = .ok (.iload 5, 2) := by decide +kernel
theorem dX7_ball_189 : decode cX7_ball 189 = .ok (.ireturn, 1) := by decide +kernel
theorem dX7_bowls_0 : decode cX7_bowls 0 = .ok (.iconst 0, 1) := by decide +kernel
theorem dX7_bowls_1 : decode cX7_bowls 1 = .ok (.istore_n 3, 1) := by decide +kernel
theorem dX7_bowls_2 : decode cX7_bowls 2 = .ok (.iconst 0, 1) := by decide +kernel
theorem dX7_bowls_3 : decode cX7_bowls 3 = .ok (.istore 4, 2) := by decide +kernel
theorem dX7_bowls_5 : decode cX7_bowls 5 = .ok (.iload 4, 2) := by decide +kernel
theorem dX7_bowls_7 : decode cX7_bowls 7 = .ok (.iload_n 2, 1) := by decide +kernel
theorem dX7_bowls_8 : decode cX7_bowls 8 = .ok (.if_icmp .ge 27, 3) := by decide +kernel
theorem dX7_bowls_11 : decode cX7_bowls 11 = .ok (.aload_n 0, 1) := by decide +kernel
theorem dX7_bowls_12 : decode cX7_bowls 12 = .ok (.iload_n 1, 1) := by decide +kernel
theorem dX7_bowls_13 : decode cX7_bowls 13 = .ok (.bipush 6, 2) := by decide +kernel
theorem dX7_bowls_15 : decode cX7_bowls 15 = .ok (.invokevirtual 88, 3) := by decide +kernel
theorem dX7_bowls_18 : decode cX7_bowls 18 = .ok (.ifCond .ne 17, 3) := by decide +kernel
theorem dX7_bowls_21 : decode cX7_bowls 21 = .ok (.iload_n 3, 1) := by decide +kernel
theorem dX7_bowls_22 : decode cX7_bowls 22 = .ok (.aload_n 0, 1) := by decide +kernel
theorem dX7_bowls_23 : decode cX7_bowls 23 = .ok (.iload_n 1, 1) := by decide +kernel
theorem dX7_bowls_24 : decode cX7_bowls 24 = .ok (.invokevirtual 141, 3) := by decide +kernel
theorem dX7_bowls_27 : decode cX7_bowls 27 = .ok (.iadd, 1) := by decide +kernel
theorem dX7_bowls_28 : decode cX7_bowls 28 = .ok (.istore_n 3, 1) := by decide +kernel
theorem dX7_bowls_29 : decode cX7_bowls 29 = .ok (.iinc 4 1, 3) := by decide +kernel
theorem dX7_bowls_32 : decode cX7_bowls 32 = .ok (.goto (-27), 3) := by decide +kernel
theorem dX7_bowls_35 : decode cX7_bowls 35 = .ok (.iload_n 3, 1) := by decide +kernel
theorem dX7_bowls_36 : decode cX7_bowls 36 = .ok (.ireturn, 1) := by decide +kernel
theorem dX7_left_0 : decode cX7_left 0 = .ok (.aload_n 0, 1) := by decide +kernel
theorem dX7_left_1 : decode cX7_left 1 = .ok (.iload_n 1, 1) := by decide +kernel
theorem dX7_left_2 : decode cX7_left 2 = .ok (.iconst 2, 1) := by decide +kernel
theorem dX7_left_3 : decode cX7_left 3 = .ok (.invokevirtual 88, 3) := by decide +kernel
theorem dX7_left_6 : decode cX7_left 6 = .ok (.aload_n 0, 1) := by decide +kernel
theorem dX7_left_7 : decode cX7_left 7 = .ok (.iload_n 1, 1) := by decide +kernel
theorem dX7_left_8 : decode cX7_left 8 = .ok (.iconst 3, 1) := by decide +kernel
theorem dX7_left_9 : decode cX7_left 9 = .ok (.invokevirtual 88, 3) := by decide +kernel
theorem dX7_left_12 : decode cX7_left 12 = .ok (.isub, 1) := by decide +kernel
theorem dX7_left_13 : decode cX7_left 13 = .ok (.ireturn, 1) := by decide +kernel
theorem dX7_bowl_0 : decode cX7_bowl 0 = .ok (.aload_n 0, 1) := by decide +kernel
theorem dX7_bowl_1 : decode cX7_bowl 1 = .ok (.aload_n 0, 1) := by decide +kernel
theorem dX7_bowl_2 : decode cX7_bowl 2 = .ok (.iload_n 1, 1) := by decide +kernel
theorem dX7_bowl_3 : decode cX7_bowl 3 = .ok (.invokevirtual 144, 3) := by decide +kernel
theorem dX7_bowl_6 : decode cX7_bowl 6 = .ok (.ifCond .ne 7, 3) := by decide +kernel
theorem dX7_bowl_9 : decode cX7_bowl 9 = .ok (.iconst 1, 1) := by decide +kernel
theorem dX7_bowl_10 : decode cX7_bowl 10 = .ok (.goto 18, 3) := by decide +kernel
theorem dX7_bowl_13 : decode cX7_bowl 13 = .ok (.iload_n 2, 1) := by decide +kernel
theorem dX7_bowl_14 : decode cX7_bowl 14 = .ok (.iconst 1, 1) := by decide +kernel
theorem dX7_bowl_15 : decode cX7_bowl 15 = .ok (.bipush 36, 2) := by decide +kernel
theorem dX7_bowl_17 : decode cX7_bowl 17 = .ok (.invokestatic 58, 3) := by decide +kernel
theorem dX7_bowl_20 : decode cX7_bowl 20 = .ok (.ifCond .eq 7, 3) := by decide +kernel
theorem dX7_bowl_23 : decode cX7_bowl 23 = .ok (.iconst 0, 1) := by decide +kernel
theorem dX7_bowl_24 : decode cX7_bowl 24 = .ok (.goto 4, 3) := by decide +kernel
theorem dX7_bowl_27 : decode cX7_bowl 27 = .ok (.iconst 2, 1) := by decide +kernel
theorem dX7_bowl_28 : decode cX7_bowl 28 = .ok (.invokevirtual 70, 3) := by decide +kernel
theorem dX7_bowl_31 : decode cX7_bowl 31 = .ok (.ifCond .eq 5, 3) := by decide +kernel
theorem dX7_bowl_34 : decode cX7_bowl 34 = .ok (.iconst 0, 1) := by decide +kernel
theorem dX7_bowl_35 : decode cX7_bowl 35 = .ok (.ireturn, 1) := by decide +kernel
theorem dX7_bowl_36 : decode cX7_bowl 36 = .ok (.aload_n 0, 1) := by decide +kernel
theorem dX7_bowl_37 : decode cX7_bowl 37 = .ok (.aload_n 0, 1) := by decide +kernel
theorem dX7_bowl_38 : decode cX7_bowl 38 = .ok (.iload_n 1, 1) := by decide +kernel
theorem dX7_bowl_39 : decode cX7_bowl 39 = .ok (.iconst 1, 1) := by decide +kernel
theorem dX7_bowl_40 : decode cX7_bowl 40 = .ok (.invokevirtual 88, 3) := by decide +kernel
theorem dX7_bowl_43 : decode cX7_bowl 43 = .ok (.aload_n 0, 1) := by decide +kernel
theorem dX7_bowl_44 : decode cX7_bowl 44 = .ok (.iload_n 1, 1) := by decide +kernel
theorem dX7_bowl_45 : decode cX7_bowl 45 = .ok (.iconst 0, 1) := by decide +kernel
theorem dX7_bowl_46 : decode cX7_bowl 46 = .ok (.invokevirtual 88, 3) := by decide +kernel
theorem dX7_bowl_49 : decode cX7_bowl 49 = .ok (.invokevirtual 129, 3) := by decide +kernel
theorem dX7_bowl_52 : decode cX7_bowl 52 = .ok (.istore_n 3, 1) := by decide +kernel
theorem dX7_bowl_53 : decode cX7_bowl 53 = .ok (.aload_n 0, 1) := by decide +kernel
theorem dX7_bowl_54 : decode cX7_bowl 54 = .ok (.iload_n 1, 1) := by decide +kernel
theorem dX7_bowl_55 : decode cX7_bowl 55 = .ok (.bipush 6, 2) := by decide +kernel
theorem dX7_bowl_57 : decode cX7_bowl 57 = .ok (.invokevirtual 88, 3) := by decide +kernel
theorem dX7_bowl_60 : decode cX7_bowl 60 = .ok (.iconst 1, 1) := by decide +kernel
theorem dX7_bowl_61 : decode cX7_bowl 61 = .ok (.if_icmp .ne 12, 3) := by decide +kernel
theorem dX7_bowl_64 : decode cX7_bowl 64 = .ok (.aload_n 0, 1) := by decide +kernel
theorem dX7_bowl_65 : decode cX7_bowl 65 = .ok (.iconst 3, 1) := by decide +kernel
theorem dX7_bowl_66 : decode cX7_bowl 66 = .ok (.bipush 9, 2) := by decide +kernel
theorem dX7_bowl_68 : decode cX7_bowl 68 = .ok (.iload_n 1, 1) := by decide +kernel
theorem dX7_bowl_69 : decode cX7_bowl 69 = .ok (.invokevirtual 77, 3) := by decide +kernel
theorem dX7_bowl_72 : decode cX7_bowl 72 = .ok (.ireturn, 1) := by decide +kernel
theorem dX7_bowl_73 : decode cX7_bowl 73 = .ok (.aload_n 0, 1) := by decide +kernel
theorem dX7_bowl_74 : decode cX7_bowl 74 = .ok (.iload_n 1, 1) := by decide +kernel
theorem dX7_bowl_75 : decode cX7_bowl 75 = .ok (.invokevirtual 147, 3) := by decide +kernel
theorem dX7_bowl_78 : decode cX7_bowl 78 = .ok (.iload_n 2, 1) := by decide +kernel
theorem dX7_bowl_79 : decode cX7_bowl 79 = .ok (.if_icmp .ge 16, 3) := by decide +kernel
theorem dX7_bowl_82 : decode cX7_bowl 82 = .ok (.aload_n 0, 1) := by decide +kernel
theorem dX7_bowl_83 : decode cX7_bowl 83 = .ok (.iconst 3, 1) := by decide +kernel
theorem dX7_bowl_84 : decode cX7_bowl 84 = .ok (.bipush 10, 2) := by decide +kernel
theorem dX7_bowl_86 : decode cX7_bowl 86 = .ok (.aload_n 0, 1) := by decide +kernel
theorem dX7_bowl_87 : decode cX7_bowl 87 = .ok (.iload_n 1, 1) := by decide +kernel
theorem dX7_bowl_88 : decode cX7_bowl 88 = .ok (.invokevirtual 147, 3) := by decide +kernel
theorem dX7_bowl_91 : decode cX7_bowl 91 = .ok (.invokevirtual 77, 3) := by decide +kernel
theorem dX7_bowl_94 : decode cX7_bowl 94 = .ok (.ireturn, 1) := by decide +kernel
theorem dX7_bowl_95 : decode cX7_bowl 95 = .ok (.iload_n 3, 1) := by decide +kernel
theorem dX7_bowl_96 : decode cX7_bowl 96 = .ok (.ifCond .le 12, 3) := by decide +kernel
theorem dX7_bowl_99 : decode cX7_bowl 99 = .ok (.aload_n 0, 1) := by decide +kernel
theorem dX7_bowl_100 : decode cX7_bowl 100 = .ok (.iconst 3, 1) := by decide +kernel
theorem dX7_bowl_101 : decode cX7_bowl 101 = .ok (.bipush 8, 2) := by decide +kernel
theorem dX7_bowl_103 : decode cX7_bowl 103 = .ok (.iload_n 3, 1) := by decide +kernel
theorem dX7_bowl_104 : decode cX7_bowl 104 = .ok (.invokevirtual 77, 3) := by decide +kernel
theorem dX7_bowl_107 : decode cX7_bowl 107 = .ok (.ireturn, 1) := by decide +kernel
theorem dX7_bowl_108 : decode cX7_bowl 108 = .ok (.aload_n 0, 1) := by decide +kernel
theorem dX7_bowl_109 : decode cX7_bowl 109 = .ok (.aload_n 0, 1) := by decide +kernel
theorem dX7_bowl_110 : decode cX7_bowl 110 = .ok (.getfield 7, 3) := by decide +kernel
theorem dX7_bowl_113 : decode cX7_bowl 113 = .ok (.invokevirtual 62, 3) := by decide +kernel
theorem dX7_bowl_116 : decode cX7_bowl 116 = .ok (.aload_n 0, 1) := by decide +kernel
theorem dX7_bowl_117 : decode cX7_bowl 117 = .ok (.iload_n 1, 1) := by decide +kernel
theorem dX7_bowl_118 : decode cX7_bowl 118 = .ok (.iload_n 2, 1) := by decide +kernel
theorem dX7_bowl_119 : decode cX7_bowl 119 = .ok (.invokevirtual 150, 3) := by decide +kernel
theorem dX7_bowl_122 : decode cX7_bowl 122 = .ok (.ireturn, 1) := by decide +kernel
theorem dX7_would_0 : decode cX7_would 0 = .ok (.aload_n 0, 1) := by decide +kernel
theorem dX7_would_1 : decode cX7_would 1 = .ok (.aload_n 0, 1) := by decide +kernel
theorem dX7_would_2 : decode cX7_would 2 = .ok (.iload_n 1, 1) := by decide +kernel
theorem dX7_would_3 : decode cX7_would 3 = .ok (.invokevirtual 144, 3) := by decide +kernel
theorem dX7_would_6 : decode cX7_would 6 = .ok (.ifCond .ne 7, 3) := by decide +kernel
theorem dX7_would_9 : decode cX7_would 9 = .ok (.iconst 1, 1) := by decide +kernel
theorem dX7_would_10 : decode cX7_would 10 = .ok (.goto 18, 3) := by decide +kernel
theorem dX7_would_13 : decode cX7_would 13 = .ok (.iload_n 2, 1) := by decide +kernel
theorem dX7_would_14 : decode cX7_would 14 = .ok (.iconst 1, 1) := by decide +kernel
theorem dX7_would_15 : decode cX7_would 15 = .ok (.bipush 36, 2) := by decide +kernel
theorem dX7_would_17 : decode cX7_would 17 = .ok (.invokestatic 58, 3) := by decide +kernel
theorem dX7_would_20 : decode cX7_would 20 = .ok (.ifCond .eq 7, 3) := by decide +kernel
theorem dX7_would_23 : decode cX7_would 23 = .ok (.iconst 0, 1) := by decide +kernel
theorem dX7_would_24 : decode cX7_would 24 = .ok (.goto 4, 3) := by decide +kernel
theorem dX7_would_27 : decode cX7_would 27 = .ok (.iconst 2, 1) := by decide +kernel
theorem dX7_would_28 : decode cX7_would 28 = .ok (.invokevirtual 70, 3) := by decide +kernel
theorem dX7_would_31 : decode cX7_would 31 = .ok (.ifCond .eq 5, 3) := by decide +kernel
theorem dX7_would_34 : decode cX7_would 34 = .ok (.iconst 0, 1) := by decide +kernel
theorem dX7_would_35 : decode cX7_would 35 = .ok (.ireturn, 1) := by decide +kernel
theorem dX7_would_36 : decode cX7_would 36 = .ok (.aload_n 0, 1) := by decide +kernel
theorem dX7_would_37 : decode cX7_would 37 = .ok (.getfield 7, 3) := by decide +kernel
theorem dX7_would_40 : decode cX7_would 40 = .ok (.iconst 0, 1) := by decide +kernel
theorem dX7_would_41 : decode cX7_would 41 = .ok (.aload_n 0, 1) := by decide +kernel
theorem dX7_would_42 : decode cX7_would 42 = .ok (.getfield 22, 3) := by decide +kernel
theorem dX7_would_45 : decode cX7_would 45 = .ok (.iconst 0, 1) := by decide +kernel
theorem dX7_would_46 : decode cX7_would 46 = .ok (.invokestatic 54, 3) := by decide +kernel
theorem dX7_would_49 : decode cX7_would 49 = .ok (.aload_n 0, 1) := by decide +kernel
theorem dX7_would_50 : decode cX7_would 50 = .ok (.iload_n 1, 1) := by decide +kernel
theorem dX7_would_51 : decode cX7_would 51 = .ok (.iload_n 2, 1) := by decide +kernel
theorem dX7_would_52 : decode cX7_would 52 = .ok (.invokevirtual 150, 3) := by decide +kernel
theorem dX7_would_55 : decode cX7_would 55 = .ok (.istore_n 3, 1) := by decide +kernel
theorem dX7_would_56 : decode cX7_would 56 = .ok (.aload_n 0, 1) := by decide +kernel
theorem dX7_would_57 : decode cX7_would 57 = .ok (.getfield 22, 3) := by decide +kernel
theorem dX7_would_60 : decode cX7_would 60 = .ok (.iconst 0, 1) := by decide +kernel
theorem dX7_would_61 : decode cX7_would 61 = .ok (.aload_n 0, 1) := by decide +kernel
theorem dX7_would_62 : decode cX7_would 62 = .ok (.getfield 7, 3) := by decide +kernel
theorem dX7_would_65 : decode cX7_would 65 = .ok (.iconst 0, 1) := by decide +kernel
theorem dX7_would_66 : decode cX7_would 66 = .ok (.invokestatic 54, 3) := by decide +kernel
theorem dX7_would_69 : decode cX7_would 69 = .ok (.iload_n 3, 1) := by decide +kernel
theorem dX7_would_70 : decode cX7_would 70 = .ok (.ireturn, 1) := by decide +kernel
theorem dX7_end_0 : decode cX7_end 0 = .ok (.aload_n 0, 1) := by decide +kernel
theorem dX7_end_1 : decode cX7_end 1 = .ok (.aload_n 0, 1) := by decide +kernel
theorem dX7_end_2 : decode cX7_end 2 = .ok (.iload_n 1, 1) := by decide +kernel
theorem dX7_end_3 : decode cX7_end 3 = .ok (.invokevirtual 144, 3) := by decide +kernel
theorem dX7_end_6 : decode cX7_end 6 = .ok (.ifCond .eq 7, 3) := by decide +kernel
theorem dX7_end_9 : decode cX7_end 9 = .ok (.iconst 0, 1) := by decide +kernel
theorem dX7_end_10 : decode cX7_end 10 = .ok (.goto 4, 3) := by decide +kernel
theorem dX7_end_13 : decode cX7_end 13 = .ok (.iconst 1, 1) := by decide +kernel
theorem dX7_end_14 : decode cX7_end 14 = .ok (.invokevirtual 70, 3) := by decide +kernel
theorem dX7_end_17 : decode cX7_end 17 = .ok (.ifCond .eq 5, 3) := by decide +kernel
theorem dX7_end_20 : decode cX7_end 20 = .ok (.iconst 0, 1) := by decide +kernel
theorem dX7_end_21 : decode cX7_end 21 = .ok (.ireturn, 1) := by decide +kernel
theorem dX7_end_22 : decode cX7_end 22 = .ok (.aload_n 0, 1) := by decide +kernel
theorem dX7_end_23 : decode cX7_end 23 = .ok (.iload_n 1, 1) := by decide +kernel
theorem dX7_end_24 : decode cX7_end 24 = .ok (.bipush 6, 2) := by decide +kernel
theorem dX7_end_26 : decode cX7_end 26 = .ok (.invokevirtual 88, 3) := by decide +kernel
theorem dX7_end_29 : decode cX7_end 29 = .ok (.iconst 1, 1) := by decide +kernel
theorem dX7_end_30 : decode cX7_end 30 = .ok (.if_icmp .ne 12, 3) := by decide +kernel
theorem dX7_end_33 : decode cX7_end 33 = .ok (.aload_n 0, 1) := by decide +kernel
theorem dX7_end_34 : decode cX7_end 34 = .ok (.iconst 2, 1) := by decide +kernel
theorem dX7_end_35 : decode cX7_end 35 = .ok (.bipush 9, 2) := by decide +kernel
theorem dX7_end_37 : decode cX7_end 37 = .ok (.iload_n 1, 1) := by decide +kernel
theorem dX7_end_38 : decode cX7_end 38 = .ok (.invokevirtual 77, 3) := by decide +kernel
theorem dX7_end_41 : decode cX7_end 41 = .ok (.ireturn, 1) := by decide +kernel
theorem dX7_end_42 : decode cX7_end 42 = .ok (.aload_n 0, 1) := by decide +kernel
theorem dX7_end_43 : decode cX7_end 43 = .ok (.aload_n 0, 1) := by decide +kernel
theorem dX7_end_44 : decode cX7_end 44 = .ok (.getfield 7, 3) := by decide +kernel
theorem dX7_end_47 : decode cX7_end 47 = .ok (.invokevirtual 62, 3) := by decide +kernel
theorem dX7_end_50 : decode cX7_end 50 = .ok (.aload_n 0, 1) := by decide +kernel
theorem dX7_end_51 : decode cX7_end 51 = .ok (.iload_n 1, 1) := by decide +kernel
theorem dX7_end_52 : decode cX7_end 52 = .ok (.bipush 6, 2) := by decide +kernel
theorem dX7_end_54 : decode cX7_end 54 = .ok (.iconst 1, 1) := by decide +kernel
theorem dX7_end_55 : decode cX7_end 55 = .ok (.invokevirtual 135, 3) := by decide +kernel
theorem dX7_end_58 : decode cX7_end 58 = .ok (.aload_n 0, 1) := by decide +kernel
theorem dX7_end_59 : decode cX7_end 59 = .ok (.iload_n 1, 1) := by decide +kernel
theorem dX7_end_60 : decode cX7_end 60 = .ok (.iconst 4, 1) := by decide +kernel
theorem dX7_end_61 : decode cX7_end 61 = .ok (.invokevirtual 88, 3) := by decide +kernel
theorem dX7_end_64 : decode cX7_end 64 = .ok (.ireturn, 1) := by decide +kernel
theorem dX7_inningsOf_0 : decode cX7_inningsOf 0 = .ok (.aload_n 0, 1) := by decide +kernel
theorem dX7_inningsOf_1 : decode cX7_inningsOf 1 = .ok (.aload_n 0, 1) := by decide +kernel
theorem dX7_inningsOf_2 : decode cX7_inningsOf 2 = .ok (.iload_n 1, 1) := by decide +kernel
theorem dX7_inningsOf_3 : decode cX7_inningsOf 3 = .ok (.invokevirtual 144, 3) := by decide +kernel
theorem dX7_inningsOf_6 : decode cX7_inningsOf 6 = .ok (.ifCond .ne 7, 3) := by decide +kernel
theorem dX7_inningsOf_9 : decode cX7_inningsOf 9 = .ok (.iconst 1, 1) := by decide +kernel
theorem dX7_inningsOf_10 : decode cX7_inningsOf 10 = .ok (.goto 18, 3) := by decide +kernel
theorem dX7_inningsOf_13 : decode cX7_inningsOf 13 = .ok (.iload_n 2, 1) := by decide +kernel
theorem dX7_inningsOf_14 : decode cX7_inningsOf 14 = .ok (.iconst 0, 1) := by decide +kernel
theorem dX7_inningsOf_15 : decode cX7_inningsOf 15 = .ok (.bipush 6, 2) := by decide +kernel
theorem dX7_inningsOf_17 : decode cX7_inningsOf 17 = .ok (.invokestatic 58, 3) := by decide +kernel
theorem dX7_inningsOf_20 : decode cX7_inningsOf 20 = .ok (.ifCond .eq 7, 3) := by decide +kernel
theorem dX7_inningsOf_23 : decode cX7_inningsOf 23 = .ok (.iconst 0, 1) := by decide +kernel
theorem dX7_inningsOf_24 : decode cX7_inningsOf 24 = .ok (.goto 4, 3) := by decide +kernel
theorem dX7_inningsOf_27 : decode cX7_inningsOf 27 = .ok (.iconst 2, 1) := by decide +kernel
theorem dX7_inningsOf_28 : decode cX7_inningsOf 28 = .ok (.invokevirtual 70, 3) := by decide +kernel
theorem dX7_inningsOf_31 : decode cX7_inningsOf 31 = .ok (.ifCond .eq 7, 3) := by decide +kernel
theorem dX7_inningsOf_34 : decode cX7_inningsOf 34 = .ok (.iconst 0, 1) := by decide +kernel
theorem dX7_inningsOf_35 : decode cX7_inningsOf 35 = .ok (.goto 9, 3) := by decide +kernel
theorem dX7_inningsOf_38 : decode cX7_inningsOf 38 = .ok (.aload_n 0, 1) := by decide +kernel
theorem dX7_inningsOf_39 : decode cX7_inningsOf 39 = .ok (.iload_n 1, 1) := by decide +kernel
theorem dX7_inningsOf_40 : decode cX7_inningsOf 40 = .ok (.iload_n 2, 1) := by decide +kernel
theorem dX7_inningsOf_41 : decode cX7_inningsOf 41 = .ok (.invokevirtual 88, 3) := by decide +kernel
theorem dX7_inningsOf_44 : decode cX7_inningsOf 44 = .ok (.ireturn, 1) := by decide +kernel
theorem dX7_balls_0 : decode cX7_balls 0 = .ok (.aload_n 0, 1) := by decide +kernel
theorem dX7_balls_1 : decode cX7_balls 1 = .ok (.aload_n 0, 1) := by decide +kernel
theorem dX7_balls_2 : decode cX7_balls 2 = .ok (.iload_n 1, 1) := by decide +kernel
theorem dX7_balls_3 : decode cX7_balls 3 = .ok (.invokevirtual 144, 3) := by decide +kernel
theorem dX7_balls_6 : decode cX7_balls 6 = .ok (.ifCond .ne 7, 3) := by decide +kernel
theorem dX7_balls_9 : decode cX7_balls 9 = .ok (.iconst 1, 1) := by decide +kernel
theorem dX7_balls_10 : decode cX7_balls 10 = .ok (.goto 18, 3) := by decide +kernel
theorem dX7_balls_13 : decode cX7_balls 13 = .ok (.iload_n 2, 1) := by decide +kernel
theorem dX7_balls_14 : decode cX7_balls 14 = .ok (.iconst 0, 1) := by decide +kernel
theorem dX7_balls_15 : decode cX7_balls 15 = .ok (.bipush 6, 2) := by decide +kernel
theorem dX7_balls_17 : decode cX7_balls 17 = .ok (.invokestatic 58, 3) := by decide +kernel
theorem dX7_balls_20 : decode cX7_balls 20 = .ok (.ifCond .eq 7, 3) := by decide +kernel
theorem dX7_balls_23 : decode cX7_balls 23 = .ok (.iconst 0, 1) := by decide +kernel
theorem dX7_balls_24 : decode cX7_balls 24 = .ok (.goto 4, 3) := by decide +kernel
theorem dX7_balls_27 : decode cX7_balls 27 = .ok (.iconst 2, 1) := by decide +kernel
theorem dX7_balls_28 : decode cX7_balls 28 = .ok (.invokevirtual 70, 3) := by decide +kernel
theorem dX7_balls_31 : decode cX7_balls 31 = .ok (.ifCond .eq 7, 3) := by decide +kernel
theorem dX7_balls_34 : decode cX7_balls 34 = .ok (.iconst 0, 1) := by decide +kernel
theorem dX7_balls_35 : decode cX7_balls 35 = .ok (.goto 12, 3) := by decide +kernel
theorem dX7_balls_38 : decode cX7_balls 38 = .ok (.aload_n 0, 1) := by decide +kernel
theorem dX7_balls_39 : decode cX7_balls 39 = .ok (.iload_n 1, 1) := by decide +kernel
theorem dX7_balls_40 : decode cX7_balls 40 = .ok (.bipush 7, 2) := by decide +kernel
theorem dX7_balls_42 : decode cX7_balls 42 = .ok (.iload_n 2, 1) := by decide +kernel
theorem dX7_balls_43 : decode cX7_balls 43 = .ok (.iadd, 1) := by decide +kernel
theorem dX7_balls_44 : decode cX7_balls 44 = .ok (.invokevirtual 88, 3) := by decide +kernel
theorem dX7_balls_47 : decode cX7_balls 47 = .ok (.ireturn, 1) := by decide +kernel
theorem dX7_runsBy_0 : decode cX7_runsBy 0 = .ok (.iconst 0, 1) := by decide +kernel
theorem dX7_runsBy_1 : decode cX7_runsBy 1 = .ok (.istore_n 2, 1) := by decide +kernel
theorem dX7_runsBy_2 : decode cX7_runsBy 2 = .ok (.iconst 0, 1) := by decide +kernel
theorem dX7_runsBy_3 : decode cX7_runsBy 3 = .ok (.istore_n 3, 1) := by decide +kernel
theorem dX7_runsBy_4 : decode cX7_runsBy 4 = .ok (.iload_n 3, 1) := by decide +kernel
theorem dX7_runsBy_5 : decode cX7_runsBy 5 = .ok (.bipush 7, 2) := by decide +kernel
theorem dX7_runsBy_7 : decode cX7_runsBy 7 = .ok (.if_icmp .ge 32, 3) := by decide +kernel
theorem dX7_runsBy_10 : decode cX7_runsBy 10 = .ok (.iload_n 2, 1) := by decide +kernel
theorem dX7_runsBy_11 : decode cX7_runsBy 11 = .ok (.iload_n 3, 1) := by decide +kernel
theorem dX7_runsBy_12 : decode cX7_runsBy 12 = .ok (.iconst 5, 1) := by decide +kernel
theorem dX7_runsBy_13 : decode cX7_runsBy 13 = .ok (.if_icmp .ne 7, 3) := by decide +kernel
theorem dX7_runsBy_16 : decode cX7_runsBy 16 = .ok (.iconst 0, 1) := by decide +kernel
theorem dX7_runsBy_17 : decode cX7_runsBy 17 = .ok (.goto 14, 3) := by decide +kernel
theorem dX7_runsBy_20 : decode cX7_runsBy 20 = .ok (.iload_n 3, 1) := by decide +kernel
theorem dX7_runsBy_21 : decode cX7_runsBy 21 = .ok (.aload_n 0, 1) := by decide +kernel
theorem dX7_runsBy_22 : decode cX7_runsBy 22 = .ok (.iload_n 1, 1) := by decide +kernel
theorem dX7_runsBy_23 : decode cX7_runsBy 23 = .ok (.bipush 7, 2) := by decide +kernel
theorem dX7_runsBy_25 : decode cX7_runsBy 25 = .ok (.iload_n 3, 1) := by decide +kernel
theorem dX7_runsBy_26 : decode cX7_runsBy 26 = .ok (.iadd, 1) := by decide +kernel
theorem dX7_runsBy_27 : decode cX7_runsBy 27 = .ok (.invokevirtual 88, 3) := by decide +kernel
theorem dX7_runsBy_30 : decode cX7_runsBy 30 = .ok (.imul, 1) := by decide +kernel
theorem dX7_runsBy_31 : decode cX7_runsBy 31 = .ok (.iadd, 1) := by decide +kernel
theorem dX7_runsBy_32 : decode cX7_runsBy 32 = .ok (.istore_n 2, 1) := by decide +kernel
theorem dX7_runsBy_33 : decode cX7_runsBy 33 = .ok (.iinc 3 1, 3) := by decide +kernel
theorem dX7_runsBy_36 : decode cX7_runsBy 36 = .ok (.goto (-32), 3) := by decide +kernel
theorem dX7_runsBy_39 : decode cX7_runsBy 39 = .ok (.iload_n 2, 1) := by decide +kernel
theorem dX7_runsBy_40 : decode cX7_runsBy 40 = .ok (.ireturn, 1) := by decide +kernel
theorem dX7_runsAgain_0 : decode cX7_runsAgain 0 = .ok (.aload_n 0, 1) := by decide +kernel
theorem dX7_runsAgain_1 : decode cX7_runsAgain 1 = .ok (.aload_n 0, 1) := by decide +kernel
theorem dX7_runsAgain_2 : decode cX7_runsAgain 2 = .ok (.iload_n 1, 1) := by decide +kernel
theorem dX7_runsAgain_3 : decode cX7_runsAgain 3 = .ok (.invokevirtual 144, 3) := by decide +kernel
theorem dX7_runsAgain_6 : decode cX7_runsAgain 6 = .ok (.ifCond .eq 7, 3) := by decide +kernel
theorem dX7_runsAgain_9 : decode cX7_runsAgain 9 = .ok (.iconst 0, 1) := by decide +kernel
theorem dX7_runsAgain_10 : decode cX7_runsAgain 10 = .ok (.goto 4, 3) := by decide +kernel
theorem dX7_runsAgain_13 : decode cX7_runsAgain 13 = .ok (.iconst 1, 1) := by decide +kernel
theorem dX7_runsAgain_14 : decode cX7_runsAgain 14 = .ok (.invokevirtual 70, 3) := by decide +kernel
theorem dX7_runsAgain_17 : decode cX7_runsAgain 17 = .ok (.ifCond .eq 7, 3) := by decide +kernel
theorem dX7_runsAgain_20 : decode cX7_runsAgain 20 = .ok (.iconst 0, 1) := by decide +kernel
theorem dX7_runsAgain_21 : decode cX7_runsAgain 21 = .ok (.goto 8, 3) := by decide +kernel
theorem dX7_runsAgain_24 : decode cX7_runsAgain 24 = .ok (.aload_n 0, 1) := by decide +kernel
theorem dX7_runsAgain_25 : decode cX7_runsAgain 25 = .ok (.iload_n 1, 1) := by decide +kernel
theorem dX7_runsAgain_26 : decode cX7_runsAgain 26 = .ok (.invokevirtual 153, 3) := by decide +kernel
theorem dX7_runsAgain_29 : decode cX7_runsAgain 29 = .ok (.ireturn, 1) := by decide +kernel
theorem dX7_isAhead_0 : decode cX7_isAhead 0 = .ok (.aload_n 0, 1) := by decide +kernel
theorem dX7_isAhead_1 : decode cX7_isAhead 1 = .ok (.iload_n 1, 1) := by decide +kernel
theorem dX7_isAhead_2 : decode cX7_isAhead 2 = .ok (.iconst 4, 1) := by decide +kernel
theorem dX7_isAhead_3 : decode cX7_isAhead 3 = .ok (.invokevirtual 88, 3) := by decide +kernel
theorem dX7_isAhead_6 : decode cX7_isAhead 6 = .ok (.aload_n 0, 1) := by decide +kernel
theorem dX7_isAhead_7 : decode cX7_isAhead 7 = .ok (.iload_n 2, 1) := by decide +kernel
theorem dX7_isAhead_8 : decode cX7_isAhead 8 = .ok (.iconst 4, 1) := by decide +kernel
theorem dX7_isAhead_9 : decode cX7_isAhead 9 = .ok (.invokevirtual 88, 3) := by decide +kernel
theorem dX7_isAhead_12 : decode cX7_isAhead 12 = .ok (.if_icmp .eq 24, 3) := by decide +kernel
theorem dX7_isAhead_15 : decode cX7_isAhead 15 = .ok (.aload_n 0, 1) := by decide +kernel
theorem dX7_isAhead_16 : decode cX7_isAhead 16 = .ok (.iload_n 1, 1) := by decide +kernel
theorem dX7_isAhead_17 : decode cX7_isAhead 17 = .ok (.iconst 4, 1) := by decide +kernel
theorem dX7_isAhead_18 : decode cX7_isAhead 18 = .ok (.invokevirtual 88, 3) := by decide +kernel
theorem dX7_isAhead_21 : decode cX7_isAhead 21 = .ok (.aload_n 0, 1) := by decide +kernel
theorem dX7_isAhead_22 : decode cX7_isAhead 22 = .ok (.iload_n 2, 1) := by decide +kernel
theorem dX7_isAhead_23 : decode cX7_isAhead 23 = .ok (.iconst 4, 1) := by decide +kernel
theorem dX7_isAhead_24 : decode cX7_isAhead 24 = .ok (.invokevirtual 88, 3) := by decide +kernel
theorem dX7_isAhead_27 : decode cX7_isAhead 27 = .ok (.if_icmp .le 7, 3) := by decide +kernel
theorem dX7_isAhead_30 : decode cX7_isAhead 30 = .ok (.iconst 1, 1) := by decide +kernel
theorem dX7_isAhead_31 : decode cX7_isAhead 31 = .ok (.goto 4, 3) := by decide +kernel
theorem dX7_isAhead_34 : decode cX7_isAhead 34 = .ok (.iconst 0, 1) := by decide +kernel
theorem dX7_isAhead_35 : decode cX7_isAhead 35 = .ok (.ireturn, 1) := by decide +kernel
theorem dX7_isAhead_36 : decode cX7_isAhead 36 = .ok (.aload_n 0, 1) := by decide +kernel
theorem dX7_isAhead_37 : decode cX7_isAhead 37 = .ok (.iload_n 1, 1) := by decide +kernel
theorem dX7_isAhead_38 : decode cX7_isAhead 38 = .ok (.iconst 3, 1) := by decide +kernel
theorem dX7_isAhead_39 : decode cX7_isAhead 39 = .ok (.invokevirtual 88, 3) := by decide +kernel
theorem dX7_isAhead_42 : decode cX7_isAhead 42 = .ok (.aload_n 0, 1) := by decide +kernel
theorem dX7_isAhead_43 : decode cX7_isAhead 43 = .ok (.iload_n 2, 1) := by decide +kernel
theorem dX7_isAhead_44 : decode cX7_isAhead 44 = .ok (.iconst 3, 1) := by decide +kernel
theorem dX7_isAhead_45 : decode cX7_isAhead 45 = .ok (.invokevirtual 88, 3) := by decide +kernel
theorem dX7_isAhead_48 : decode cX7_isAhead 48 = .ok (.if_icmp .eq 26, 3) := by decide +kernel
theorem dX7_isAhead_51 : decode cX7_isAhead 51 = .ok (.aload_n 0, 1) := by decide +kernel
theorem dX7_isAhead_52 : decode cX7_isAhead 52 = .ok (.iload_n 1, 1) := by decide +kernel
theorem dX7_isAhead_53 : decode cX7_isAhead 53 = .ok (.iconst 3, 1) := by decide +kernel
theorem dX7_isAhead_54 : decode cX7_isAhead 54 = .ok (.invokevirtual 88, 3) := by decide +kernel
theorem dX7_isAhead_57 : decode cX7_isAhead 57 = .ok (.aload_n 0, 1) := by decide +kernel
theorem dX7_isAhead_58 : decode cX7_isAhead 58 = .ok (.iload_n 2, 1) := by decide +kernel
theorem dX7_isAhead_59 : decode cX7_isAhead 59 = .ok (.iconst 3, 1) := by decide +kernel
theorem dX7_isAhead_60 : decode cX7_isAhead 60 = .ok (.invokevirtual 88, 3) := by decide +kernel
theorem dX7_isAhead_63 : decode cX7_isAhead 63 = .ok (.if_icmp .ge 7, 3) := by decide +kernel
theorem dX7_isAhead_66 : decode cX7_isAhead 66 = .ok (.iconst 1, 1) := by decide +kernel
theorem dX7_isAhead_67 : decode cX7_isAhead 67 = .ok (.goto 17, 3) := by decide +kernel
theorem dX7_isAhead_70 : decode cX7_isAhead 70 = .ok (.iconst 0, 1) := by decide +kernel
theorem dX7_isAhead_71 : decode cX7_isAhead 71 = .ok (.goto 13, 3) := by decide +kernel
theorem dX7_isAhead_74 : decode cX7_isAhead 74 = .ok (.iload_n 1, 1) := by decide +kernel
theorem dX7_isAhead_75 : decode cX7_isAhead 75 = .ok (.iload_n 2, 1) := by decide +kernel
theorem dX7_isAhead_76 : decode cX7_isAhead 76 = .ok (.if_icmp .ge 7, 3) := by decide +kernel
theorem dX7_isAhead_79 : decode cX7_isAhead 79 = .ok (.iconst 1, 1) := by decide +kernel
theorem dX7_isAhead_80 : decode cX7_isAhead 80 = .ok (.goto 4, 3) := by decide +kernel
theorem dX7_isAhead_83 : decode cX7_isAhead 83 = .ok (.iconst 0, 1) := by decide +kernel
theorem dX7_isAhead_84 : decode cX7_isAhead 84 = .ok (.ireturn, 1) := by decide +kernel
theorem dX7_rankOf_0 : decode cX7_rankOf 0 = .ok (.iconst 0, 1) := by decide +kernel
theorem dX7_rankOf_1 : decode cX7_rankOf 1 = .ok (.istore_n 2, 1) := by decide +kernel
theorem dX7_rankOf_2 : decode cX7_rankOf 2 = .ok (.iconst 0, 1) := by decide +kernel
theorem dX7_rankOf_3 : decode cX7_rankOf 3 = .ok (.istore_n 3, 1) := by decide +kernel
theorem dX7_rankOf_4 : decode cX7_rankOf 4 = .ok (.iload_n 3, 1) := by decide +kernel
theorem dX7_rankOf_5 : decode cX7_rankOf 5 = .ok (.aload_n 0, 1) := by decide +kernel
theorem dX7_rankOf_6 : decode cX7_rankOf 6 = .ok (.getfield 7, 3) := by decide +kernel
theorem dX7_rankOf_9 : decode cX7_rankOf 9 = .ok (.bipush 106, 2) := by decide +kernel
theorem dX7_rankOf_11 : decode cX7_rankOf 11 = .ok (.iaload, 1) := by decide +kernel
theorem dX7_rankOf_12 : decode cX7_rankOf 12 = .ok (.if_icmp .ge 31, 3) := by decide +kernel
theorem dX7_rankOf_15 : decode cX7_rankOf 15 = .ok (.iload_n 2, 1) := by decide +kernel
theorem dX7_rankOf_16 : decode cX7_rankOf 16 = .ok (.iload_n 3, 1) := by decide +kernel
theorem dX7_rankOf_17 : decode cX7_rankOf 17 = .ok (.iload_n 1, 1) := by decide +kernel
theorem dX7_rankOf_18 : decode cX7_rankOf 18 = .ok (.if_icmp .eq 16, 3) := by decide +kernel
theorem dX7_rankOf_21 : decode cX7_rankOf 21 = .ok (.aload_n 0, 1) := by decide +kernel
theorem dX7_rankOf_22 : decode cX7_rankOf 22 = .ok (.iload_n 3, 1) := by decide +kernel
theorem dX7_rankOf_23 : decode cX7_rankOf 23 = .ok (.iload_n 1, 1) := by decide +kernel
theorem dX7_rankOf_24 : decode cX7_rankOf 24 = .ok (.invokevirtual 156, 3) := by decide +kernel
theorem dX7_rankOf_27 : decode cX7_rankOf 27 = .ok (.ifCond .eq 7, 3) := by decide +kernel
theorem dX7_rankOf_30 : decode cX7_rankOf 30 = .ok (.iconst 1, 1) := by decide +kernel
theorem dX7_rankOf_31 : decode cX7_rankOf 31 = .ok (.goto 4, 3) := by decide +kernel
theorem dX7_rankOf_34 : decode cX7_rankOf 34 = .ok (.iconst 0, 1) := by decide +kernel
theorem dX7_rankOf_35 : decode cX7_rankOf 35 = .ok (.iadd, 1) := by decide +kernel
theorem dX7_rankOf_36 : decode cX7_rankOf 36 = .ok (.istore_n 2, 1) := by decide +kernel
theorem dX7_rankOf_37 : decode cX7_rankOf 37 = .ok (.iinc 3 1, 3) := by decide +kernel
theorem dX7_rankOf_40 : decode cX7_rankOf 40 = .ok (.goto (-36), 3) := by decide +kernel
theorem dX7_rankOf_43 : decode cX7_rankOf 43 = .ok (.iload_n 2, 1) := by decide +kernel
theorem dX7_rankOf_44 : decode cX7_rankOf 44 = .ok (.ireturn, 1) := by decide +kernel
theorem dX7_ranked_0 : decode cX7_ranked 0 = .ok (.iconst 0, 1) := by decide +kernel
theorem dX7_ranked_1 : decode cX7_ranked 1 = .ok (.istore_n 2, 1) := by decide +kernel
theorem dX7_ranked_2 : decode cX7_ranked 2 = .ok (.iload_n 2, 1) := by decide +kernel
theorem dX7_ranked_3 : decode cX7_ranked 3 = .ok (.aload_n 0, 1) := by decide +kernel
theorem dX7_ranked_4 : decode cX7_ranked 4 = .ok (.getfield 7, 3) := by decide +kernel
theorem dX7_ranked_7 : decode cX7_ranked 7 = .ok (.bipush 106, 2) := by decide +kernel
theorem dX7_ranked_9 : decode cX7_ranked 9 = .ok (.iaload, 1) := by decide +kernel
theorem dX7_ranked_10 : decode cX7_ranked 10 = .ok (.if_icmp .ge 18, 3) := by decide +kernel
theorem dX7_ranked_13 : decode cX7_ranked 13 = .ok (.aload_n 0, 1) := by decide +kernel
theorem dX7_ranked_14 : decode cX7_ranked 14 = .ok (.iload_n 2, 1) := by decide +kernel
theorem dX7_ranked_15 : decode cX7_ranked 15 = .ok (.invokevirtual 160, 3) := by decide +kernel
theorem dX7_ranked_18 : decode cX7_ranked 18 = .ok (.iload_n 1, 1) := by decide +kernel
theorem dX7_ranked_19 : decode cX7_ranked 19 = .ok (.if_icmp .eq 9, 3) := by decide +kernel
theorem dX7_ranked_22 : decode cX7_ranked 22 = .ok (.iinc 2 1, 3) := by decide +kernel
theorem dX7_ranked_25 : decode cX7_ranked 25 = .ok (.goto (-23), 3) := by decide +kernel
theorem dX7_ranked_28 : decode cX7_ranked 28 = .ok (.aload_n 0, 1) := by decide +kernel
theorem dX7_ranked_29 : decode cX7_ranked 29 = .ok (.iload_n 2, 1) := by decide +kernel
theorem dX7_ranked_30 : decode cX7_ranked 30 = .ok (.aload_n 0, 1) := by decide +kernel
theorem dX7_ranked_31 : decode cX7_ranked 31 = .ok (.getfield 7, 3) := by decide +kernel
theorem dX7_ranked_34 : decode cX7_ranked 34 = .ok (.bipush 106, 2) := by decide +kernel
theorem dX7_ranked_36 : decode cX7_ranked 36 = .ok (.iaload, 1) := by decide +kernel
theorem dX7_ranked_37 : decode cX7_ranked 37 = .ok (.if_icmp .ne 7, 3) := by decide +kernel
theorem dX7_ranked_40 : decode cX7_ranked 40 = .ok (.iconst 1, 1) := by decide +kernel
theorem dX7_ranked_41 : decode cX7_ranked 41 = .ok (.goto 4, 3) := by decide +kernel
theorem dX7_ranked_44 : decode cX7_ranked 44 = .ok (.iconst 0, 1) := by decide +kernel
theorem dX7_ranked_45 : decode cX7_ranked 45 = .ok (.invokevirtual 70, 3) := by decide +kernel
theorem dX7_ranked_48 : decode cX7_ranked 48 = .ok (.ifCond .eq 7, 3) := by decide +kernel
theorem dX7_ranked_51 : decode cX7_ranked 51 = .ok (.iconst 0, 1) := by decide +kernel
theorem dX7_ranked_52 : decode cX7_ranked 52 = .ok (.goto 4, 3) := by decide +kernel
theorem dX7_ranked_55 : decode cX7_ranked 55 = .ok (.iload_n 2, 1) := by decide +kernel
theorem dX7_ranked_56 : decode cX7_ranked 56 = .ok (.ireturn, 1) := by decide +kernel
theorem dX7_rolls_0 : decode cX7_rolls 0 = .ok (.aload_n 0, 1) := by decide +kernel
theorem dX7_rolls_1 : decode cX7_rolls 1 = .ok (.iload_n 1, 1) := by decide +kernel
theorem dX7_rolls_2 : decode cX7_rolls 2 = .ok (.iconst 4, 1) := by decide +kernel
theorem dX7_rolls_3 : decode cX7_rolls 3 = .ok (.invokevirtual 85, 3) := by decide +kernel
theorem dX7_rolls_6 : decode cX7_rolls 6 = .ok (.istore_n 2, 1) := by decide +kernel
theorem dX7_rolls_7 : decode cX7_rolls 7 = .ok (.aload_n 0, 1) := by decide +kernel
theorem dX7_rolls_8 : decode cX7_rolls 8 = .ok (.iload_n 1, 1) := by decide +kernel
theorem dX7_rolls_9 : decode cX7_rolls 9 = .ok (.iconst 0, 1) := by decide +kernel
theorem dX7_rolls_10 : decode cX7_rolls 10 = .ok (.invokevirtual 85, 3) := by decide +kernel
theorem dX7_rolls_13 : decode cX7_rolls 13 = .ok (.istore_n 3, 1) := by decide +kernel
theorem dX7_rolls_14 : decode cX7_rolls 14 = .ok (.aload_n 0, 1) := by decide +kernel
theorem dX7_rolls_15 : decode cX7_rolls 15 = .ok (.iload_n 2, 1) := by decide +kernel
theorem dX7_rolls_16 : decode cX7_rolls 16 = .ok (.iconst 1, 1) := by decide +kernel
theorem dX7_rolls_17 : decode cX7_rolls 17 = .ok (.bipush 99, 2) := by decide +kernel
theorem dX7_rolls_19 : decode cX7_rolls 19 = .ok (.aload_n 0, 1) := by decide +kernel
theorem dX7_rolls_20 : decode cX7_rolls 20 = .ok (.iload_n 2, 1) := by decide +kernel
theorem dX7_rolls_21 : decode cX7_rolls 21 = .ok (.iconst 1, 1) := by decide +kernel
theorem dX7_rolls_22 : decode cX7_rolls 22 = .ok (.invokevirtual 98, 3) := by decide +kernel
theorem dX7_rolls_25 : decode cX7_rolls 25 = .ok (.iload_n 3, 1) := by decide +kernel
theorem dX7_rolls_26 : decode cX7_rolls 26 = .ok (.iadd, 1) := by decide +kernel
theorem dX7_rolls_27 : decode cX7_rolls 27 = .ok (.invokestatic 120, 3) := by decide +kernel
theorem dX7_rolls_30 : decode cX7_rolls 30 = .ok (.invokevirtual 81, 3) := by decide +kernel
theorem dX7_rolls_33 : decode cX7_rolls 33 = .ok (.aload_n 0, 1) := by decide +kernel
theorem dX7_rolls_34 : decode cX7_rolls 34 = .ok (.iload_n 2, 1) := by decide +kernel
theorem dX7_rolls_35 : decode cX7_rolls 35 = .ok (.iconst 0, 1) := by decide +kernel
theorem dX7_rolls_36 : decode cX7_rolls 36 = .ok (.iconst 0, 1) := by decide +kernel
theorem dX7_rolls_37 : decode cX7_rolls 37 = .ok (.aload_n 0, 1) := by decide +kernel
theorem dX7_rolls_38 : decode cX7_rolls 38 = .ok (.iload_n 2, 1) := by decide +kernel
theorem dX7_rolls_39 : decode cX7_rolls 39 = .ok (.iconst 0, 1) := by decide +kernel
theorem dX7_rolls_40 : decode cX7_rolls 40 = .ok (.invokevirtual 98, 3) := by decide +kernel
theorem dX7_rolls_43 : decode cX7_rolls 43 = .ok (.iload_n 3, 1) := by decide +kernel
theorem dX7_rolls_44 : decode cX7_rolls 44 = .ok (.iconst 2, 1) := by decide +kernel
theorem dX7_rolls_45 : decode cX7_rolls 45 = .ok (.idiv, 1) := by decide +kernel
theorem dX7_rolls_46 : decode cX7_rolls 46 = .ok (.isub, 1) := by decide +kernel
theorem dX7_rolls_47 : decode cX7_rolls 47 = .ok (.invokestatic 138, 3) := by decide +kernel
theorem dX7_rolls_50 : decode cX7_rolls 50 = .ok (.invokevirtual 81, 3) := by decide +kernel
theorem dX7_rolls_53 : decode cX7_rolls 53 = .ok (.aload_n 0, 1) := by decide +kernel
theorem dX7_rolls_54 : decode cX7_rolls 54 = .ok (.iload_n 1, 1) := by decide +kernel
theorem dX7_rolls_55 : decode cX7_rolls 55 = .ok (.iconst 1, 1) := by decide +kernel
theorem dX7_rolls_56 : decode cX7_rolls 56 = .ok (.invokevirtual 85, 3) := by decide +kernel
theorem dX7_rolls_59 : decode cX7_rolls 59 = .ok (.ifCond .ne 32, 3) := by decide +kernel
theorem dX7_rolls_62 : decode cX7_rolls 62 = .ok (.aload_n 0, 1) := by decide +kernel
theorem dX7_rolls_63 : decode cX7_rolls 63 = .ok (.iload_n 2, 1) := by decide +kernel
theorem dX7_rolls_64 : decode cX7_rolls 64 = .ok (.iconst 2, 1) := by decide +kernel
theorem dX7_rolls_65 : decode cX7_rolls 65 = .ok (.bipush 99, 2) := by decide +kernel
theorem dX7_rolls_67 : decode cX7_rolls 67 = .ok (.aload_n 0, 1) := by decide +kernel
theorem dX7_rolls_68 : decode cX7_rolls 68 = .ok (.iload_n 2, 1) := by decide +kernel
theorem dX7_rolls_69 : decode cX7_rolls 69 = .ok (.iconst 2, 1) := by decide +kernel
theorem dX7_rolls_70 : decode cX7_rolls 70 = .ok (.invokevirtual 98, 3) := by decide +kernel
theorem dX7_rolls_73 : decode cX7_rolls 73 = .ok (.aload_n 0, 1) := by decide +kernel
theorem dX7_rolls_74 : decode cX7_rolls 74 = .ok (.iload_n 2, 1) := by decide +kernel
theorem dX7_rolls_75 : decode cX7_rolls 75 = .ok (.iconst 0, 1) := by decide +kernel
theorem dX7_rolls_76 : decode cX7_rolls 76 = .ok (.invokevirtual 98, 3) := by decide +kernel
theorem dX7_rolls_79 : decode cX7_rolls 79 = .ok (.bipush 10, 2) := by decide +kernel
theorem dX7_rolls_81 : decode cX7_rolls 81 = .ok (.idiv, 1) := by decide +kernel
theorem dX7_rolls_82 : decode cX7_rolls 82 = .ok (.iadd, 1) := by decide +kernel
theorem dX7_rolls_83 : decode cX7_rolls 83 = .ok (.iconst 1, 1) := by decide +kernel
theorem dX7_rolls_84 : decode cX7_rolls 84 = .ok (.iadd, 1) := by decide +kernel
theorem dX7_rolls_85 : decode cX7_rolls 85 = .ok (.invokestatic 120, 3) := by decide +kernel
theorem dX7_rolls_88 : decode cX7_rolls 88 = .ok (.invokevirtual 81, 3) := by decide +kernel
theorem dX7_rolls_91 : decode cX7_rolls 91 = .ok (.aload_n 0, 1) := by decide +kernel
theorem dX7_rolls_92 : decode cX7_rolls 92 = .ok (.iload_n 1, 1) := by decide +kernel
theorem dX7_rolls_93 : decode cX7_rolls 93 = .ok (.iconst 2, 1) := by decide +kernel
theorem dX7_rolls_94 : decode cX7_rolls 94 = .ok (.bipush 20, 2) := by decide +kernel
theorem dX7_rolls_96 : decode cX7_rolls 96 = .ok (.aload_n 0, 1) := by decide +kernel
theorem dX7_rolls_97 : decode cX7_rolls 97 = .ok (.iload_n 1, 1) := by decide +kernel
theorem dX7_rolls_98 : decode cX7_rolls 98 = .ok (.iconst 2, 1) := by decide +kernel
theorem dX7_rolls_99 : decode cX7_rolls 99 = .ok (.invokevirtual 85, 3) := by decide +kernel
theorem dX7_rolls_102 : decode cX7_rolls 102 = .ok (.iconst 2, 1) := by decide +kernel
theorem dX7_rolls_103 : decode cX7_rolls 103 = .ok (.iadd, 1) := by decide +kernel
theorem dX7_rolls_104 : decode cX7_rolls 104 = .ok (.invokestatic 120, 3) := by decide +kernel
theorem dX7_rolls_107 : decode cX7_rolls 107 = .ok (.invokevirtual 104, 3) := by decide +kernel
theorem dX7_rolls_110 : decode cX7_rolls 110 = .ok (.aload_n 0, 1) := by decide +kernel
theorem dX7_rolls_111 : decode cX7_rolls 111 = .ok (.iload_n 1, 1) := by decide +kernel
theorem dX7_rolls_112 : decode cX7_rolls 112 = .ok (.iconst 3, 1) := by decide +kernel
theorem dX7_rolls_113 : decode cX7_rolls 113 = .ok (.aload_n 0, 1) := by decide +kernel
theorem dX7_rolls_114 : decode cX7_rolls 114 = .ok (.iload_n 1, 1) := by decide +kernel
theorem dX7_rolls_115 : decode cX7_rolls 115 = .ok (.iconst 3, 1) := by decide +kernel
theorem dX7_rolls_116 : decode cX7_rolls 116 = .ok (.invokevirtual 85, 3) := by decide +kernel
theorem dX7_rolls_119 : decode cX7_rolls 119 = .ok (.iconst 1, 1) := by decide +kernel
theorem dX7_rolls_120 : decode cX7_rolls 120 = .ok (.isub, 1) := by decide +kernel
theorem dX7_rolls_121 : decode cX7_rolls 121 = .ok (.invokevirtual 104, 3) := by decide +kernel
theorem dX7_rolls_124 : decode cX7_rolls 124 = .ok (.aload_n 0, 1) := by decide +kernel
theorem dX7_rolls_125 : decode cX7_rolls 125 = .ok (.iload_n 1, 1) := by decide +kernel
theorem dX7_rolls_126 : decode cX7_rolls 126 = .ok (.iconst 5, 1) := by decide +kernel
theorem dX7_rolls_127 : decode cX7_rolls 127 = .ok (.aload_n 0, 1) := by decide +kernel
theorem dX7_rolls_128 : decode cX7_rolls 128 = .ok (.iload_n 1, 1) := by decide +kernel
theorem dX7_rolls_129 : decode cX7_rolls 129 = .ok (.iconst 5, 1) := by decide +kernel
theorem dX7_rolls_130 : decode cX7_rolls 130 = .ok (.invokevirtual 85, 3) := by decide +kernel
theorem dX7_rolls_133 : decode cX7_rolls 133 = .ok (.iconst 1, 1) := by decide +kernel
theorem dX7_rolls_134 : decode cX7_rolls 134 = .ok (.iadd, 1) := by decide +kernel
theorem dX7_rolls_135 : decode cX7_rolls 135 = .ok (.invokevirtual 104, 3) := by decide +kernel
theorem dX7_rolls_138 : decode cX7_rolls 138 = .ok (.aload_n 0, 1) := by decide +kernel
theorem dX7_rolls_139 : decode cX7_rolls 139 = .ok (.iload_n 1, 1) := by decide +kernel
theorem dX7_rolls_140 : decode cX7_rolls 140 = .ok (.iconst 3, 1) := by decide +kernel
theorem dX7_rolls_141 : decode cX7_rolls 141 = .ok (.invokevirtual 85, 3) := by decide +kernel
theorem dX7_rolls_144 : decode cX7_rolls 144 = .ok (.ifCond .ne 10, 3) := by decide +kernel
theorem dX7_rolls_147 : decode cX7_rolls 147 = .ok (.aload_n 0, 1) := by decide +kernel
theorem dX7_rolls_148 : decode cX7_rolls 148 = .ok (.iload_n 1, 1) := by decide +kernel
theorem dX7_rolls_149 : decode cX7_rolls 149 = .ok (.iconst 4, 1) := by decide +kernel
theorem dX7_rolls_150 : decode cX7_rolls 150 = .ok (.iconst (-1), 1) := by decide +kernel
theorem dX7_rolls_151 : decode cX7_rolls 151 = .ok (.invokevirtual 104, 3) := by decide +kernel
theorem dX7_rolls_154 : decode cX7_rolls 154 = .ok (.return_, 1) := by decide +kernel
theorem dX7_hourGoes_0 : decode cX7_hourGoes 0 = .ok (.iconst 0, 1) := by decide +kernel
theorem dX7_hourGoes_1 : decode cX7_hourGoes 1 = .ok (.istore_n 1, 1) := by decide +kernel
theorem dX7_hourGoes_2 : decode cX7_hourGoes 2 = .ok (.iconst 0, 1) := by decide +kernel
theorem dX7_hourGoes_3 : decode cX7_hourGoes 3 = .ok (.istore_n 2, 1) := by decide +kernel
theorem dX7_hourGoes_4 : decode cX7_hourGoes 4 = .ok (.iload_n 2, 1) := by decide +kernel
theorem dX7_hourGoes_5 : decode cX7_hourGoes 5 = .ok (.aload_n 0, 1) := by decide +kernel
theorem dX7_hourGoes_6 : decode cX7_hourGoes 6 = .ok (.getfield 7, 3) := by decide +kernel
theorem dX7_hourGoes_9 : decode cX7_hourGoes 9 = .ok (.bipush 71, 2) := by decide +kernel
theorem dX7_hourGoes_11 : decode cX7_hourGoes 11 = .ok (.iaload, 1) := by decide +kernel
theorem dX7_hourGoes_12 : decode cX7_hourGoes 12 = .ok (.if_icmp .ge 47, 3) := by decide +kernel
theorem dX7_hourGoes_15 : decode cX7_hourGoes 15 = .ok (.aload_n 0, 1) := by decide +kernel
theorem dX7_hourGoes_16 : decode cX7_hourGoes 16 = .ok (.iload_n 2, 1) := by decide +kernel
theorem dX7_hourGoes_17 : decode cX7_hourGoes 17 = .ok (.iconst 3, 1) := by decide +kernel
theorem dX7_hourGoes_18 : decode cX7_hourGoes 18 = .ok (.invokevirtual 85, 3) := by decide +kernel
theorem dX7_hourGoes_21 : decode cX7_hourGoes 21 = .ok (.ifCond .le 14, 3) := by decide +kernel
theorem dX7_hourGoes_24 : decode cX7_hourGoes 24 = .ok (.aload_n 0, 1) := by decide +kernel
theorem dX7_hourGoes_25 : decode cX7_hourGoes 25 = .ok (.iload_n 2, 1) := by decide +kernel
theorem dX7_hourGoes_26 : decode cX7_hourGoes 26 = .ok (.invokevirtual 163, 3) := by decide +kernel
theorem dX7_hourGoes_29 : decode cX7_hourGoes 29 = .ok (.iinc 1 1, 3) := by decide +kernel
theorem dX7_hourGoes_32 : decode cX7_hourGoes 32 = .ok (.goto 21, 3) := by decide +kernel
theorem dX7_hourGoes_35 : decode cX7_hourGoes 35 = .ok (.aload_n 0, 1) := by decide +kernel
theorem dX7_hourGoes_36 : decode cX7_hourGoes 36 = .ok (.iload_n 2, 1) := by decide +kernel
theorem dX7_hourGoes_37 : decode cX7_hourGoes 37 = .ok (.iconst 2, 1) := by decide +kernel
theorem dX7_hourGoes_38 : decode cX7_hourGoes 38 = .ok (.iconst 0, 1) := by decide +kernel
theorem dX7_hourGoes_39 : decode cX7_hourGoes 39 = .ok (.aload_n 0, 1) := by decide +kernel
theorem dX7_hourGoes_40 : decode cX7_hourGoes 40 = .ok (.iload_n 2, 1) := by decide +kernel
theorem dX7_hourGoes_41 : decode cX7_hourGoes 41 = .ok (.iconst 2, 1) := by decide +kernel
theorem dX7_hourGoes_42 : decode cX7_hourGoes 42 = .ok (.invokevirtual 85, 3) := by decide +kernel
theorem dX7_hourGoes_45 : decode cX7_hourGoes 45 = .ok (.iconst 1, 1) := by decide +kernel
theorem dX7_hourGoes_46 : decode cX7_hourGoes 46 = .ok (.isub, 1) := by decide +kernel
theorem dX7_hourGoes_47 : decode cX7_hourGoes 47 = .ok (.invokestatic 138, 3) := by decide +kernel
theorem dX7_hourGoes_50 : decode cX7_hourGoes 50 = .ok (.invokevirtual 104, 3) := by decide +kernel
theorem dX7_hourGoes_53 : decode cX7_hourGoes 53 = .ok (.iinc 2 1, 3) := by decide +kernel
theorem dX7_hourGoes_56 : decode cX7_hourGoes 56 = .ok (.goto (-52), 3) := by decide +kernel
theorem dX7_hourGoes_59 : decode cX7_hourGoes 59 = .ok (.iconst 0, 1) := by decide +kernel
theorem dX7_hourGoes_60 : decode cX7_hourGoes 60 = .ok (.istore_n 2, 1) := by decide +kernel
theorem dX7_hourGoes_61 : decode cX7_hourGoes 61 = .ok (.iload_n 2, 1) := by decide +kernel
theorem dX7_hourGoes_62 : decode cX7_hourGoes 62 = .ok (.aload_n 0, 1) := by decide +kernel
theorem dX7_hourGoes_63 : decode cX7_hourGoes 63 = .ok (.getfield 7, 3) := by decide +kernel
theorem dX7_hourGoes_66 : decode cX7_hourGoes 66 = .ok (.bipush 50, 2) := by decide +kernel
theorem dX7_hourGoes_68 : decode cX7_hourGoes 68 = .ok (.iaload, 1) := by decide +kernel
theorem dX7_hourGoes_69 : decode cX7_hourGoes 69 = .ok (.if_icmp .ge 74, 3) := by decide +kernel
theorem dX7_hourGoes_72 : decode cX7_hourGoes 72 = .ok (.aload_n 0, 1) := by decide +kernel
theorem dX7_hourGoes_73 : decode cX7_hourGoes 73 = .ok (.iload_n 2, 1) := by decide +kernel
theorem dX7_hourGoes_74 : decode cX7_hourGoes 74 = .ok (.iconst 3, 1) := by decide +kernel
theorem dX7_hourGoes_75 : decode cX7_hourGoes 75 = .ok (.invokevirtual 98, 3) := by decide +kernel
theorem dX7_hourGoes_78 : decode cX7_hourGoes 78 = .ok (.iconst 1, 1) := by decide +kernel
theorem dX7_hourGoes_79 : decode cX7_hourGoes 79 = .ok (.if_icmp .ne 6, 3) := by decide +kernel
theorem dX7_hourGoes_82 : decode cX7_hourGoes 82 = .ok (.goto 55, 3) := by decide +kernel
theorem dX7_hourGoes_85 : decode cX7_hourGoes 85 = .ok (.bipush 99, 2) := by decide +kernel
theorem dX7_hourGoes_87 : decode cX7_hourGoes 87 = .ok (.aload_n 0, 1) := by decide +kernel
theorem dX7_hourGoes_88 : decode cX7_hourGoes 88 = .ok (.iload_n 2, 1) := by decide +kernel
theorem dX7_hourGoes_89 : decode cX7_hourGoes 89 = .ok (.iconst 0, 1) := by decide +kernel
theorem dX7_hourGoes_90 : decode cX7_hourGoes 90 = .ok (.invokevirtual 98, 3) := by decide +kernel
theorem dX7_hourGoes_93 : decode cX7_hourGoes 93 = .ok (.iconst 4, 1) := by decide +kernel
theorem dX7_hourGoes_94 : decode cX7_hourGoes 94 = .ok (.aload_n 0, 1) := by decide +kernel
theorem dX7_hourGoes_95 : decode cX7_hourGoes 95 = .ok (.getfield 7, 3) := by decide +kernel
theorem dX7_hourGoes_98 : decode cX7_hourGoes 98 = .ok (.iconst 2, 1) := by decide +kernel
theorem dX7_hourGoes_99 : decode cX7_hourGoes 99 = .ok (.aload_n 0, 1) := by decide +kernel
theorem dX7_hourGoes_100 : decode cX7_hourGoes 100 = .ok (.invokevirtual 123, 3) := by decide +kernel
theorem dX7_hourGoes_103 : decode cX7_hourGoes 103 = .ok (.iadd, 1) := by decide +kernel
theorem dX7_hourGoes_104 : decode cX7_hourGoes 104 = .ok (.iaload, 1) := by decide +kernel
theorem dX7_hourGoes_105 : decode cX7_hourGoes 105 = .ok (.imul, 1) := by decide +kernel
theorem dX7_hourGoes_106 : decode cX7_hourGoes 106 = .ok (.iadd, 1) := by decide +kernel
theorem dX7_hourGoes_107 : decode cX7_hourGoes 107 = .ok (.invokestatic 120, 3) := by decide +kernel
theorem dX7_hourGoes_110 : decode cX7_hourGoes 110 = .ok (.istore_n 3, 1) := by decide +kernel
theorem dX7_hourGoes_111 : decode cX7_hourGoes 111 = .ok (.aload_n 0, 1) := by decide +kernel
theorem dX7_hourGoes_112 : decode cX7_hourGoes 112 = .ok (.iload_n 2, 1) := by decide +kernel
theorem dX7_hourGoes_113 : decode cX7_hourGoes 113 = .ok (.iconst 0, 1) := by decide +kernel
theorem dX7_hourGoes_114 : decode cX7_hourGoes 114 = .ok (.iconst 0, 1) := by decide +kernel
theorem dX7_hourGoes_115 : decode cX7_hourGoes 115 = .ok (.iload_n 3, 1) := by decide +kernel
theorem dX7_hourGoes_116 : decode cX7_hourGoes 116 = .ok (.aload_n 0, 1) := by decide +kernel
theorem dX7_hourGoes_117 : decode cX7_hourGoes 117 = .ok (.getfield 7, 3) := by decide +kernel
theorem dX7_hourGoes_120 : decode cX7_hourGoes 120 = .ok (.bipush 26, 2) := by decide +kernel
theorem dX7_hourGoes_122 : decode cX7_hourGoes 122 = .ok (.aload_n 0, 1) := by decide +kernel
theorem dX7_hourGoes_123 : decode cX7_hourGoes 123 = .ok (.invokevirtual 123, 3) := by decide +kernel
theorem dX7_hourGoes_126 : decode cX7_hourGoes 126 = .ok (.iadd, 1) := by decide +kernel
theorem dX7_hourGoes_127 : decode cX7_hourGoes 127 = .ok (.iaload, 1) := by decide +kernel
theorem dX7_hourGoes_128 : decode cX7_hourGoes 128 = .ok (.iconst 2, 1) := by decide +kernel
theorem dX7_hourGoes_129 : decode cX7_hourGoes 129 = .ok (.idiv, 1) := by decide +kernel
theorem dX7_hourGoes_130 : decode cX7_hourGoes 130 = .ok (.isub, 1) := by decide +kernel
theorem dX7_hourGoes_131 : decode cX7_hourGoes 131 = .ok (.invokestatic 138, 3) := by decide +kernel
theorem dX7_hourGoes_134 : decode cX7_hourGoes 134 = .ok (.invokevirtual 81, 3) := by decide +kernel
theorem dX7_hourGoes_137 : decode cX7_hourGoes 137 = .ok (.iinc 2 1, 3) := by decide +kernel
theorem dX7_hourGoes_140 : decode cX7_hourGoes 140 = .ok (.goto (-79), 3) := by decide +kernel
theorem dX7_hourGoes_143 : decode cX7_hourGoes 143 = .ok (.aload_n 0, 1) := by decide +kernel
theorem dX7_hourGoes_144 : decode cX7_hourGoes 144 = .ok (.getfield 7, 3) := by decide +kernel
theorem dX7_hourGoes_147 : decode cX7_hourGoes 147 = .ok (.iconst 0, 1) := by decide +kernel
theorem dX7_hourGoes_148 : decode cX7_hourGoes 148 = .ok (.dup2, 1) := by decide +kernel
theorem dX7_hourGoes_149 : decode cX7_hourGoes 149 = .ok (.iaload, 1) := by decide +kernel
theorem dX7_hourGoes_150 : decode cX7_hourGoes 150 = .ok (.iconst 1, 1) := by decide +kernel
theorem dX7_hourGoes_151 : decode cX7_hourGoes 151 = .ok (.iadd, 1) := by decide +kernel
theorem dX7_hourGoes_152 : decode cX7_hourGoes 152 = .ok (.iastore, 1) := by decide +kernel
theorem dX7_hourGoes_153 : decode cX7_hourGoes 153 = .ok (.iload_n 1, 1) := by decide +kernel
theorem dX7_hourGoes_154 : decode cX7_hourGoes 154 = .ok (.ireturn, 1) := by decide +kernel
theorem dX7_pass_0 : decode cX7_pass 0 = .ok (.aload_n 0, 1) := by decide +kernel
theorem dX7_pass_1 : decode cX7_pass 1 = .ok (.iload_n 1, 1) := by decide +kernel
theorem dX7_pass_2 : decode cX7_pass 2 = .ok (.iconst 1, 1) := by decide +kernel
theorem dX7_pass_3 : decode cX7_pass 3 = .ok (.bipush 72, 2) := by decide +kernel
theorem dX7_pass_5 : decode cX7_pass 5 = .ok (.invokestatic 58, 3) := by decide +kernel
theorem dX7_pass_8 : decode cX7_pass 8 = .ok (.ifCond .eq 7, 3) := by decide +kernel
theorem dX7_pass_11 : decode cX7_pass 11 = .ok (.iconst 0, 1) := by decide +kernel
theorem dX7_pass_12 : decode cX7_pass 12 = .ok (.goto 4, 3) := by decide +kernel
theorem dX7_pass_15 : decode cX7_pass 15 = .ok (.iconst 1, 1) := by decide +kernel
theorem dX7_pass_16 : decode cX7_pass 16 = .ok (.invokevirtual 70, 3) := by decide +kernel
theorem dX7_pass_19 : decode cX7_pass 19 = .ok (.ifCond .eq 5, 3) := by decide +kernel
theorem dX7_pass_22 : decode cX7_pass 22 = .ok (.iconst 0, 1) := by decide +kernel
theorem dX7_pass_23 : decode cX7_pass 23 = .ok (.ireturn, 1) := by decide +kernel
theorem dX7_pass_24 : decode cX7_pass 24 = .ok (.aload_n 0, 1) := by decide +kernel
theorem dX7_pass_25 : decode cX7_pass 25 = .ok (.aload_n 0, 1) := by decide +kernel
theorem dX7_pass_26 : decode cX7_pass 26 = .ok (.getfield 7, 3) := by decide +kernel
theorem dX7_pass_29 : decode cX7_pass 29 = .ok (.invokevirtual 62, 3) := by decide +kernel
theorem dX7_pass_32 : decode cX7_pass 32 = .ok (.iconst 0, 1) := by decide +kernel
theorem dX7_pass_33 : decode cX7_pass 33 = .ok (.istore_n 2, 1) := by decide +kernel
theorem dX7_pass_34 : decode cX7_pass 34 = .ok (.iconst 0, 1) := by decide +kernel
theorem dX7_pass_35 : decode cX7_pass 35 = .ok (.istore_n 3, 1) := by decide +kernel
theorem dX7_pass_36 : decode cX7_pass 36 = .ok (.iload_n 3, 1) := by decide +kernel
theorem dX7_pass_37 : decode cX7_pass 37 = .ok (.iload_n 1, 1) := by decide +kernel
theorem dX7_pass_38 : decode cX7_pass 38 = .ok (.if_icmp .ge 16, 3) := by decide +kernel
theorem dX7_pass_41 : decode cX7_pass 41 = .ok (.iload_n 2, 1) := by decide +kernel
theorem dX7_pass_42 : decode cX7_pass 42 = .ok (.aload_n 0, 1) := by decide +kernel
theorem dX7_pass_43 : decode cX7_pass 43 = .ok (.invokevirtual 132, 3) := by decide +kernel
theorem dX7_pass_46 : decode cX7_pass 46 = .ok (.iadd, 1) := by decide +kernel
theorem dX7_pass_47 : decode cX7_pass 47 = .ok (.istore_n 2, 1) := by decide +kernel
theorem dX7_pass_48 : decode cX7_pass 48 = .ok (.iinc 3 1, 3) := by decide +kernel
theorem dX7_pass_51 : decode cX7_pass 51 = .ok (.goto (-15), 3) := by decide +kernel
theorem dX7_pass_54 : decode cX7_pass 54 = .ok (.iload_n 2, 1) := by decide +kernel
theorem dX7_pass_55 : decode cX7_pass 55 = .ok (.ireturn, 1) := by decide +kernel
theorem dX7_append_0 : decode cX7_append 0 = .ok (.aload_n 0, 1) := by decide +kernel
theorem dX7_append_1 : decode cX7_append 1 = .ok (.aload_n 0, 1) := by decide +kernel
theorem dX7_append_2 : decode cX7_append 2 = .ok (.getfield 167, 3) := by decide +kernel
theorem dX7_append_5 : decode cX7_append 5 = .ok (.bipush 60, 2) := by decide +kernel
theorem dX7_append_7 : decode cX7_append 7 = .ok (.if_icmp .ne 7, 3) := by decide +kernel
theorem dX7_append_10 : decode cX7_append 10 = .ok (.iconst 1, 1) := by decide +kernel
theorem dX7_append_11 : decode cX7_append 11 = .ok (.goto 4, 3) := by decide +kernel
theorem dX7_append_14 : decode cX7_append 14 = .ok (.iconst 0, 1) := by decide +kernel
theorem dX7_append_15 : decode cX7_append 15 = .ok (.invokevirtual 70, 3) := by decide +kernel
theorem dX7_append_18 : decode cX7_append 18 = .ok (.ifCond .eq 5, 3) := by decide +kernel
theorem dX7_append_21 : decode cX7_append 21 = .ok (.iconst 0, 1) := by decide +kernel
theorem dX7_append_22 : decode cX7_append 22 = .ok (.ireturn, 1) := by decide +kernel
theorem dX7_append_23 : decode cX7_append 23 = .ok (.aload_n 0, 1) := by decide +kernel
theorem dX7_append_24 : decode cX7_append 24 = .ok (.getfield 25, 3) := by decide +kernel
theorem dX7_append_27 : decode cX7_append 27 = .ok (.aload_n 0, 1) := by decide +kernel
theorem dX7_append_28 : decode cX7_append 28 = .ok (.getfield 167, 3) := by decide +kernel
theorem dX7_append_31 : decode cX7_append 31 = .ok (.iload_n 1, 1) := by decide +kernel
theorem dX7_append_32 : decode cX7_append 32 = .ok (.iastore, 1) := by decide +kernel
theorem dX7_append_33 : decode cX7_append 33 = .ok (.aload_n 0, 1) := by decide +kernel
theorem dX7_append_34 : decode cX7_append 34 = .ok (.dup, 1) := by decide +kernel
theorem dX7_append_35 : decode cX7_append 35 = .ok (.getfield 167, 3) := by decide +kernel
theorem dX7_append_38 : decode cX7_append 38 = .ok (.iconst 1, 1) := by decide +kernel
theorem dX7_append_39 : decode cX7_append 39 = .ok (.iadd, 1) := by decide +kernel
theorem dX7_append_40 : decode cX7_append 40 = .ok (.putfield 167, 3) := by decide +kernel
theorem dX7_append_43 : decode cX7_append 43 = .ok (.aload_n 0, 1) := by decide +kernel
theorem dX7_append_44 : decode cX7_append 44 = .ok (.getfield 167, 3) := by decide +kernel
theorem dX7_append_47 : decode cX7_append 47 = .ok (.ireturn, 1) := by decide +kernel
theorem dX7_here_0 : decode cX7_here 0 = .ok (.aload_n 0, 1) := by decide +kernel
theorem dX7_here_1 : decode cX7_here 1 = .ok (.getfield 170, 3) := by decide +kernel
theorem dX7_here_4 : decode cX7_here 4 = .ok (.aload_n 0, 1) := by decide +kernel
theorem dX7_here_5 : decode cX7_here 5 = .ok (.getfield 167, 3) := by decide +kernel
theorem dX7_here_8 : decode cX7_here 8 = .ok (.if_icmp .ge 15, 3) := by decide +kernel
theorem dX7_here_11 : decode cX7_here 11 = .ok (.aload_n 0, 1) := by decide +kernel
theorem dX7_here_12 : decode cX7_here 12 = .ok (.getfield 25, 3) := by decide +kernel
theorem dX7_here_15 : decode cX7_here 15 = .ok (.aload_n 0, 1) := by decide +kernel
theorem dX7_here_16 : decode cX7_here 16 = .ok (.getfield 170, 3) := by decide +kernel
theorem dX7_here_19 : decode cX7_here 19 = .ok (.iaload, 1) := by decide +kernel
theorem dX7_here_20 : decode cX7_here 20 = .ok (.goto 4, 3) := by decide +kernel
theorem dX7_here_23 : decode cX7_here 23 = .ok (.iconst (-1), 1) := by decide +kernel
theorem dX7_here_24 : decode cX7_here 24 = .ok (.ireturn, 1) := by decide +kernel
theorem dX7_skips_0 : decode cX7_skips 0 = .ok (.aload_n 0, 1) := by decide +kernel
theorem dX7_skips_1 : decode cX7_skips 1 = .ok (.invokevirtual 173, 3) := by decide +kernel
theorem dX7_skips_4 : decode cX7_skips 4 = .ok (.iload_n 1, 1) := by decide +kernel
theorem dX7_skips_5 : decode cX7_skips 5 = .ok (.if_icmp .eq 5, 3) := by decide +kernel
theorem dX7_skips_8 : decode cX7_skips 8 = .ok (.iconst 0, 1) := by decide +kernel
theorem dX7_skips_9 : decode cX7_skips 9 = .ok (.ireturn, 1) := by decide +kernel
theorem dX7_skips_10 : decode cX7_skips 10 = .ok (.aload_n 0, 1) := by decide +kernel
theorem dX7_skips_11 : decode cX7_skips 11 = .ok (.dup, 1) := by decide +kernel
theorem dX7_skips_12 : decode cX7_skips 12 = .ok (.getfield 170, 3) := by decide +kernel
theorem dX7_skips_15 : decode cX7_skips 15 = .ok (.iconst 1, 1) := by decide +kernel
theorem dX7_skips_16 : decode cX7_skips 16 = .ok (.iadd, 1) := by decide +kernel
theorem dX7_skips_17 : decode cX7_skips 17 = .ok (.putfield 170, 3) := by decide +kernel
theorem dX7_skips_20 : decode cX7_skips 20 = .ok (.iconst 1, 1) := by decide +kernel
theorem dX7_skips_21 : decode cX7_skips 21 = .ok (.ireturn, 1) := by decide +kernel
theorem dX7_number_0 : decode cX7_number 0 = .ok (.aload_n 0, 1) := by decide +kernel
theorem dX7_number_1 : decode cX7_number 1 = .ok (.invokevirtual 173, 3) := by decide +kernel
theorem dX7_number_4 : decode cX7_number 4 = .ok (.bipush 48, 2) := by decide +kernel
theorem dX7_number_6 : decode cX7_number 6 = .ok (.bipush 57, 2) := by decide +kernel
theorem dX7_number_8 : decode cX7_number 8 = .ok (.invokestatic 58, 3) := by decide +kernel
theorem dX7_number_11 : decode cX7_number 11 = .ok (.ifCond .ne 5, 3) := by decide +kernel
theorem dX7_number_14 : decode cX7_number 14 = .ok (.iconst 0, 1) := by decide +kernel
theorem dX7_number_15 : decode cX7_number 15 = .ok (.ireturn, 1) := by decide +kernel
theorem dX7_number_16 : decode cX7_number 16 = .ok (.aload_n 0, 1) := by decide +kernel
theorem dX7_number_17 : decode cX7_number 17 = .ok (.getfield 32, 3) := by decide +kernel
theorem dX7_number_20 : decode cX7_number 20 = .ok (.iload_n 1, 1) := by decide +kernel
theorem dX7_number_21 : decode cX7_number 21 = .ok (.iconst 0, 1) := by decide +kernel
theorem dX7_number_22 : decode cX7_number 22 = .ok (.iastore, 1) := by decide +kernel
theorem dX7_number_23 : decode cX7_number 23 = .ok (.iconst 0, 1) := by decide +kernel
theorem dX7_number_24 : decode cX7_number 24 = .ok (.istore_n 3, 1) := by decide +kernel
theorem dX7_number_25 : decode cX7_number 25 = .ok (.iload_n 3, 1) := by decide +kernel
theorem dX7_number_26 : decode cX7_number 26 = .ok (.iload_n 2, 1) := by decide +kernel
theorem dX7_number_27 : decode cX7_number 27 = .ok (.if_icmp .ge 56, 3) := by decide +kernel
theorem dX7_number_30 : decode cX7_number 30 = .ok (.aload_n 0, 1) := by decide +kernel
theorem dX7_number_31 : decode cX7_number 31 = .ok (.invokevirtual 173, 3) := by decide +kernel
theorem dX7_number_34 : decode cX7_number 34 = .ok (.bipush 48, 2) := by decide +kernel
theorem dX7_number_36 : decode cX7_number 36 = .ok (.bipush 57, 2) := by decide +kernel
theorem dX7_number_38 : decode cX7_number 38 = .ok (.invokestatic 58, 3) := by decide +kernel
theorem dX7_number_41 : decode cX7_number 41 = .ok (.ifCond .eq 42, 3) := by decide +kernel
theorem dX7_number_44 : decode cX7_number 44 = .ok (.aload_n 0, 1) := by decide +kernel
theorem dX7_number_45 : decode cX7_number 45 = .ok (.getfield 32, 3) := by decide +kernel
theorem dX7_number_48 : decode cX7_number 48 = .ok (.iload_n 1, 1) := by decide +kernel
theorem dX7_number_49 : decode cX7_number 49 = .ok (.bipush 10, 2) := by decide +kernel
theorem dX7_number_51 : decode cX7_number 51 = .ok (.aload_n 0, 1) := by decide +kernel
theorem dX7_number_52 : decode cX7_number 52 = .ok (.getfield 32, 3) := by decide +kernel
theorem dX7_number_55 : decode cX7_number 55 = .ok (.iload_n 1, 1) := by decide +kernel
theorem dX7_number_56 : decode cX7_number 56 = .ok (.iaload, 1) := by decide +kernel
theorem dX7_number_57 : decode cX7_number 57 = .ok (.imul, 1) := by decide +kernel
theorem dX7_number_58 : decode cX7_number 58 = .ok (.aload_n 0, 1) := by decide +kernel
theorem dX7_number_59 : decode cX7_number 59 = .ok (.invokevirtual 173, 3) := by decide +kernel
theorem dX7_number_62 : decode cX7_number 62 = .ok (.iadd, 1) := by decide +kernel
theorem dX7_number_63 : decode cX7_number 63 = .ok (.bipush 48, 2) := by decide +kernel
theorem dX7_number_65 : decode cX7_number 65 = .ok (.isub, 1) := by decide +kernel
theorem dX7_number_66 : decode cX7_number 66 = .ok (.iastore, 1) := by decide +kernel
theorem dX7_number_67 : decode cX7_number 67 = .ok (.aload_n 0, 1) := by decide +kernel
theorem dX7_number_68 : decode cX7_number 68 = .ok (.dup, 1) := by decide +kernel
theorem dX7_number_69 : decode cX7_number 69 = .ok (.getfield 170, 3) := by decide +kernel
theorem dX7_number_72 : decode cX7_number 72 = .ok (.iconst 1, 1) := by decide +kernel
theorem dX7_number_73 : decode cX7_number 73 = .ok (.iadd, 1) := by decide +kernel
theorem dX7_number_74 : decode cX7_number 74 = .ok (.putfield 170, 3) := by decide +kernel
theorem dX7_number_77 : decode cX7_number 77 = .ok (.iinc 3 1, 3) := by decide +kernel
theorem dX7_number_80 : decode cX7_number 80 = .ok (.goto (-55), 3) := by decide +kernel
theorem dX7_number_83 : decode cX7_number 83 = .ok (.iconst 1, 1) := by decide +kernel
theorem dX7_number_84 : decode cX7_number 84 = .ok (.ireturn, 1) := by decide +kernel
theorem dX7_orderHere_0 : decode cX7_orderHere 0 = .ok (.iconst 4, 1) := by decide +kernel
theorem dX7_orderHere_1 : decode cX7_orderHere 1 = .ok (.aload_n 0, 1) := by decide +kernel
theorem dX7_orderHere_2 : decode cX7_orderHere 2 = .ok (.getfield 176, 3) := by decide +kernel
theorem dX7_orderHere_5 : decode cX7_orderHere 5 = .ok (.imul, 1) := by decide +kernel
theorem dX7_orderHere_6 : decode cX7_orderHere 6 = .ok (.istore_n 1, 1) := by decide +kernel
theorem dX7_orderHere_7 : decode cX7_orderHere 7 = .ok (.aload_n 0, 1) := by decide +kernel
theorem dX7_orderHere_8 : decode cX7_orderHere 8 = .ok (.getfield 32, 3) := by decide +kernel
theorem dX7_orderHere_11 : decode cX7_orderHere 11 = .ok (.iload_n 1, 1) := by decide +kernel
theorem dX7_orderHere_12 : decode cX7_orderHere 12 = .ok (.aload_n 0, 1) := by decide +kernel
theorem dX7_orderHere_13 : decode cX7_orderHere 13 = .ok (.invokevirtual 173, 3) := by decide +kernel
theorem dX7_orderHere_16 : decode cX7_orderHere 16 = .ok (.iastore, 1) := by decide +kernel
theorem dX7_orderHere_17 : decode cX7_orderHere 17 = .ok (.aload_n 0, 1) := by decide +kernel
theorem dX7_orderHere_18 : decode cX7_orderHere 18 = .ok (.bipush 114, 2) := by decide +kernel
theorem dX7_orderHere_20 : decode cX7_orderHere 20 = .ok (.invokevirtual 179, 3) := by decide +kernel
theorem dX7_orderHere_23 : decode cX7_orderHere 23 = .ok (.ifCond .eq 60, 3) := by decide +kernel
theorem dX7_orderHere_26 : decode cX7_orderHere 26 = .ok (.aload_n 0, 1) := by decide +kernel
theorem dX7_orderHere_27 : decode cX7_orderHere 27 = .ok (.iload_n 1, 1) := by decide +kernel
theorem dX7_orderHere_28 : decode cX7_orderHere 28 = .ok (.iconst 1, 1) := by decide +kernel
theorem dX7_orderHere_29 : decode cX7_orderHere 29 = .ok (.iadd, 1) := by decide +kernel
theorem dX7_orderHere_30 : decode cX7_orderHere 30 = .ok (.iconst 1, 1) := by decide +kernel
theorem dX7_orderHere_31 : decode cX7_orderHere 31 = .ok (.invokevirtual 182, 3) := by decide +kernel
theorem dX7_orderHere_34 : decode cX7_orderHere 34 = .ok (.ifCond .eq 47, 3) := by decide +kernel
theorem dX7_orderHere_37 : decode cX7_orderHere 37 = .ok (.aload_n 0, 1) := by decide +kernel
theorem dX7_orderHere_38 : decode cX7_orderHere 38 = .ok (.bipush 58, 2) := by decide +kernel
theorem dX7_orderHere_40 : decode cX7_orderHere 40 = .ok (.invokevirtual 179, 3) := by decide +kernel
theorem dX7_orderHere_43 : decode cX7_orderHere 43 = .ok (.ifCond .eq 38, 3) := by decide +kernel
theorem dX7_orderHere_46 : decode cX7_orderHere 46 = .ok (.aload_n 0, 1) := by decide +kernel
theorem dX7_orderHere_47 : decode cX7_orderHere 47 = .ok (.iload_n 1, 1) := by decide +kernel
theorem dX7_orderHere_48 : decode cX7_orderHere 48 = .ok (.iconst 2, 1) := by decide +kernel
theorem dX7_orderHere_49 : decode cX7_orderHere 49 = .ok (.iadd, 1) := by decide +kernel
theorem dX7_orderHere_50 : decode cX7_orderHere 50 = .ok (.iconst 1, 1) := by decide +kernel
theorem dX7_orderHere_51 : decode cX7_orderHere 51 = .ok (.invokevirtual 182, 3) := by decide +kernel
theorem dX7_orderHere_54 : decode cX7_orderHere 54 = .ok (.ifCond .eq 27, 3) := by decide +kernel
theorem dX7_orderHere_57 : decode cX7_orderHere 57 = .ok (.aload_n 0, 1) := by decide +kernel
theorem dX7_orderHere_58 : decode cX7_orderHere 58 = .ok (.bipush 43, 2) := by decide +kernel
theorem dX7_orderHere_60 : decode cX7_orderHere 60 = .ok (.invokevirtual 179, 3) := by decide +kernel
theorem dX7_orderHere_63 : decode cX7_orderHere 63 = .ok (.ifCond .eq 18, 3) := by decide +kernel
theorem dX7_orderHere_66 : decode cX7_orderHere 66 = .ok (.aload_n 0, 1) := by decide +kernel
theorem dX7_orderHere_67 : decode cX7_orderHere 67 = .ok (.iload_n 1, 1) := by decide +kernel
theorem dX7_orderHere_68 : decode cX7_orderHere 68 = .ok (.iconst 3, 1) := by decide +kernel
theorem dX7_orderHere_69 : decode cX7_orderHere 69 = .ok (.iadd, 1) := by decide +kernel
theorem dX7_orderHere_70 : decode cX7_orderHere 70 = .ok (.iconst 1, 1) := by decide +kernel
theorem dX7_orderHere_71 : decode cX7_orderHere 71 = .ok (.invokevirtual 182, 3) := by decide +kernel
theorem dX7_orderHere_74 : decode cX7_orderHere 74 = .ok (.ifCond .eq 7, 3) := by decide +kernel
theorem dX7_orderHere_77 : decode cX7_orderHere 77 = .ok (.iconst 1, 1) := by decide +kernel
theorem dX7_orderHere_78 : decode cX7_orderHere 78 = .ok (.goto 4, 3) := by decide +kernel
theorem dX7_orderHere_81 : decode cX7_orderHere 81 = .ok (.iconst 0, 1) := by decide +kernel
theorem dX7_orderHere_82 : decode cX7_orderHere 82 = .ok (.ireturn, 1) := by decide +kernel
theorem dX7_orderHere_83 : decode cX7_orderHere 83 = .ok (.aload_n 0, 1) := by decide +kernel
theorem dX7_orderHere_84 : decode cX7_orderHere 84 = .ok (.bipush 98, 2) := by decide +kernel
theorem dX7_orderHere_86 : decode cX7_orderHere 86 = .ok (.invokevirtual 179, 3) := by decide +kernel
theorem dX7_orderHere_89 : decode cX7_orderHere 89 = .ok (.ifCond .eq 40, 3) := by decide +kernel
theorem dX7_orderHere_92 : decode cX7_orderHere 92 = .ok (.aload_n 0, 1) := by decide +kernel
theorem dX7_orderHere_93 : decode cX7_orderHere 93 = .ok (.iload_n 1, 1) := by decide +kernel
theorem dX7_orderHere_94 : decode cX7_orderHere 94 = .ok (.iconst 1, 1) := by decide +kernel
theorem dX7_orderHere_95 : decode cX7_orderHere 95 = .ok (.iadd, 1) := by decide +kernel
theorem dX7_orderHere_96 : decode cX7_orderHere 96 = .ok (.iconst 2, 1) := by decide +kernel
theorem dX7_orderHere_97 : decode cX7_orderHere 97 = .ok (.invokevirtual 182, 3) := by decide +kernel
theorem dX7_orderHere_100 : decode cX7_orderHere 100 = .ok (.ifCond .eq 27, 3) := by decide +kernel
theorem dX7_orderHere_103 : decode cX7_orderHere 103 = .ok (.aload_n 0, 1) := by decide +kernel
theorem dX7_orderHere_104 : decode cX7_orderHere 104 = .ok (.bipush 42, 2) := by decide +kernel
theorem dX7_orderHere_106 : decode cX7_orderHere 106 = .ok (.invokevirtual 179, 3) := by decide +kernel
theorem dX7_orderHere_109 : decode cX7_orderHere 109 = .ok (.ifCond .eq 18, 3) := by decide +kernel
theorem dX7_orderHere_112 : decode cX7_orderHere 112 = .ok (.aload_n 0, 1) := by decide +kernel
theorem dX7_orderHere_113 : decode cX7_orderHere 113 = .ok (.iload_n 1, 1) := by decide +kernel
theorem dX7_orderHere_114 : decode cX7_orderHere 114 = .ok (.iconst 2, 1) := by decide +kernel
theorem dX7_orderHere_115 : decode cX7_orderHere 115 = .ok (.iadd, 1) := by decide +kernel
theorem dX7_orderHere_116 : decode cX7_orderHere 116 = .ok (.iconst 2, 1) := by decide +kernel
theorem dX7_orderHere_117 : decode cX7_orderHere 117 = .ok (.invokevirtual 182, 3) := by decide +kernel
theorem dX7_orderHere_120 : decode cX7_orderHere 120 = .ok (.ifCond .eq 7, 3) := by decide +kernel
theorem dX7_orderHere_123 : decode cX7_orderHere 123 = .ok (.iconst 1, 1) := by decide +kernel
theorem dX7_orderHere_124 : decode cX7_orderHere 124 = .ok (.goto 4, 3) := by decide +kernel
theorem dX7_orderHere_127 : decode cX7_orderHere 127 = .ok (.iconst 0, 1) := by decide +kernel
theorem dX7_orderHere_128 : decode cX7_orderHere 128 = .ok (.ireturn, 1) := by decide +kernel
theorem dX7_orderHere_129 : decode cX7_orderHere 129 = .ok (.aload_n 0, 1) := by decide +kernel
theorem dX7_orderHere_130 : decode cX7_orderHere 130 = .ok (.bipush 99, 2) := by decide +kernel
theorem dX7_orderHere_132 : decode cX7_orderHere 132 = .ok (.invokevirtual 179, 3) := by decide +kernel
theorem dX7_orderHere_135 : decode cX7_orderHere 135 = .ok (.ifCond .ne 12, 3) := by decide +kernel
theorem dX7_orderHere_138 : decode cX7_orderHere 138 = .ok (.aload_n 0, 1) := by decide +kernel
theorem dX7_orderHere_139 : decode cX7_orderHere 139 = .ok (.bipush 117, 2) := by decide +kernel
theorem dX7_orderHere_141 : decode cX7_orderHere 141 = .ok (.invokevirtual 179, 3) := by decide +kernel
theorem dX7_orderHere_144 : decode cX7_orderHere 144 = .ok (.ifCond .eq 12, 3) := by decide +kernel
theorem dX7_orderHere_147 : decode cX7_orderHere 147 = .ok (.aload_n 0, 1) := by decide +kernel
theorem dX7_orderHere_148 : decode cX7_orderHere 148 = .ok (.iload_n 1, 1) := by decide +kernel
theorem dX7_orderHere_149 : decode cX7_orderHere 149 = .ok (.iconst 1, 1) := by decide +kernel
theorem dX7_orderHere_150 : decode cX7_orderHere 150 = .ok (.iadd, 1) := by decide +kernel
theorem dX7_orderHere_151 : decode cX7_orderHere 151 = .ok (.iconst 1, 1) := by decide +kernel
theorem dX7_orderHere_152 : decode cX7_orderHere 152 = .ok (.invokevirtual 182, 3) := by decide +kernel
theorem dX7_orderHere_155 : decode cX7_orderHere 155 = .ok (.ireturn, 1) := by decide +kernel
theorem dX7_orderHere_156 : decode cX7_orderHere 156 = .ok (.aload_n 0, 1) := by decide +kernel
theorem dX7_orderHere_157 : decode cX7_orderHere 157 = .ok (.bipush 101, 2) := by decide +kernel
theorem dX7_orderHere_159 : decode cX7_orderHere 159 = .ok (.invokevirtual 179, 3) := by decide +kernel
theorem dX7_orderHere_162 : decode cX7_orderHere 162 = .ok (.ifCond .ne 12, 3) := by decide +kernel
theorem dX7_orderHere_165 : decode cX7_orderHere 165 = .ok (.aload_n 0, 1) := by decide +kernel
theorem dX7_orderHere_166 : decode cX7_orderHere 166 = .ok (.bipush 104, 2) := by decide +kernel
theorem dX7_orderHere_168 : decode cX7_orderHere 168 = .ok (.invokevirtual 179, 3) := by decide +kernel
theorem dX7_orderHere_171 : decode cX7_orderHere 171 = .ok (.ifCond .eq 18, 3) := by decide +kernel
theorem dX7_orderHere_174 : decode cX7_orderHere 174 = .ok (.aload_n 0, 1) := by decide +kernel
theorem dX7_orderHere_175 : decode cX7_orderHere 175 = .ok (.iload_n 1, 1) := by decide +kernel
theorem dX7_orderHere_176 : decode cX7_orderHere 176 = .ok (.iconst 1, 1) := by decide +kernel
theorem dX7_orderHere_177 : decode cX7_orderHere 177 = .ok (.iadd, 1) := by decide +kernel
theorem dX7_orderHere_178 : decode cX7_orderHere 178 = .ok (.iconst 2, 1) := by decide +kernel
theorem dX7_orderHere_179 : decode cX7_orderHere 179 = .ok (.invokevirtual 182, 3) := by decide +kernel
theorem dX7_orderHere_182 : decode cX7_orderHere 182 = .ok (.ifCond .eq 7, 3) := by decide +kernel
theorem dX7_orderHere_185 : decode cX7_orderHere 185 = .ok (.iconst 1, 1) := by decide +kernel
theorem dX7_orderHere_186 : decode cX7_orderHere 186 = .ok (.goto 4, 3) := by decide +kernel
theorem dX7_orderHere_189 : decode cX7_orderHere 189 = .ok (.iconst 0, 1) := by decide +kernel
theorem dX7_orderHere_190 : decode cX7_orderHere 190 = .ok (.ireturn, 1) := by decide +kernel
theorem dX7_isText_0 : decode cX7_isText 0 = .ok (.aload_n 0, 1) := by decide +kernel
theorem dX7_isText_1 : decode cX7_isText 1 = .ok (.iconst 0, 1) := by decide +kernel
theorem dX7_isText_2 : decode cX7_isText 2 = .ok (.putfield 170, 3) := by decide +kernel
theorem dX7_isText_5 : decode cX7_isText 5 = .ok (.aload_n 0, 1) := by decide +kernel
theorem dX7_isText_6 : decode cX7_isText 6 = .ok (.iconst 0, 1) := by decide +kernel
theorem dX7_isText_7 : decode cX7_isText 7 = .ok (.putfield 176, 3) := by decide +kernel
theorem dX7_isText_10 : decode cX7_isText 10 = .ok (.aload_n 0, 1) := by decide +kernel
theorem dX7_isText_11 : decode cX7_isText 11 = .ok (.invokevirtual 185, 3) := by decide +kernel
theorem dX7_isText_14 : decode cX7_isText 14 = .ok (.ifCond .ne 5, 3) := by decide +kernel
theorem dX7_isText_17 : decode cX7_isText 17 = .ok (.iconst 0, 1) := by decide +kernel
theorem dX7_isText_18 : decode cX7_isText 18 = .ok (.ireturn, 1) := by decide +kernel
theorem dX7_isText_19 : decode cX7_isText 19 = .ok (.aload_n 0, 1) := by decide +kernel
theorem dX7_isText_20 : decode cX7_isText 20 = .ok (.dup, 1) := by decide +kernel
theorem dX7_isText_21 : decode cX7_isText 21 = .ok (.getfield 176, 3) := by decide +kernel
theorem dX7_isText_24 : decode cX7_isText 24 = .ok (.iconst 1, 1) := by decide +kernel
theorem dX7_isText_25 : decode cX7_isText 25 = .ok (.iadd, 1) := by decide +kernel
theorem dX7_isText_26 : decode cX7_isText 26 = .ok (.putfield 176, 3) := by decide +kernel
theorem dX7_isText_29 : decode cX7_isText 29 = .ok (.aload_n 0, 1) := by decide +kernel
theorem dX7_isText_30 : decode cX7_isText 30 = .ok (.bipush 59, 2) := by decide +kernel
theorem dX7_isText_32 : decode cX7_isText 32 = .ok (.invokevirtual 179, 3) := by decide +kernel
theorem dX7_isText_35 : decode cX7_isText 35 = .ok (.ifCond .ne (-25), 3) := by decide +kernel
theorem dX7_isText_38 : decode cX7_isText 38 = .ok (.aload_n 0, 1) := by decide +kernel
theorem dX7_isText_39 : decode cX7_isText 39 = .ok (.getfield 170, 3) := by decide +kernel
theorem dX7_isText_42 : decode cX7_isText 42 = .ok (.aload_n 0, 1) := by decide +kernel
theorem dX7_isText_43 : decode cX7_isText 43 = .ok (.getfield 167, 3) := by decide +kernel
theorem dX7_isText_46 : decode cX7_isText 46 = .ok (.if_icmp .ne 7, 3) := by decide +kernel
theorem dX7_isText_49 : decode cX7_isText 49 = .ok (.iconst 1, 1) := by decide +kernel
theorem dX7_isText_50 : decode cX7_isText 50 = .ok (.goto 4, 3) := by decide +kernel
theorem dX7_isText_53 : decode cX7_isText 53 = .ok (.iconst 0, 1) := by decide +kernel
theorem dX7_isText_54 : decode cX7_isText 54 = .ok (.ireturn, 1) := by decide +kernel
theorem dX7_carries_0 : decode cX7_carries 0 = .ok (.aload_n 0, 1) := by decide +kernel
theorem dX7_carries_1 : decode cX7_carries 1 = .ok (.getfield 32, 3) := by decide +kernel
theorem dX7_carries_4 : decode cX7_carries 4 = .ok (.iload_n 1, 1) := by decide +kernel
theorem dX7_carries_5 : decode cX7_carries 5 = .ok (.iaload, 1) := by decide +kernel
theorem dX7_carries_6 : decode cX7_carries 6 = .ok (.lookupswitch 141 #[(98, 79), (99, 100), (101, 128), (114, 50), (117, 114)], 50) := by decide +kernel
theorem dX7_carries_56 : decode cX7_carries 56 = .ok (.aload_n 0, 1) := by decide +kernel
theorem dX7_carries_57 : decode cX7_carries 57 = .ok (.aload_n 0, 1) := by decide +kernel
theorem dX7_carries_58 : decode cX7_carries 58 = .ok (.getfield 32, 3) := by decide +kernel
theorem dX7_carries_61 : decode cX7_carries 61 = .ok (.iload_n 1, 1) := by decide +kernel
theorem dX7_carries_62 : decode cX7_carries 62 = .ok (.iconst 1, 1) := by decide +kernel
theorem dX7_carries_63 : decode cX7_carries 63 = .ok (.iadd, 1) := by decide +kernel
theorem dX7_carries_64 : decode cX7_carries 64 = .ok (.iaload, 1) := by decide +kernel
theorem dX7_carries_65 : decode cX7_carries 65 = .ok (.aload_n 0, 1) := by decide +kernel
theorem dX7_carries_66 : decode cX7_carries 66 = .ok (.getfield 32, 3) := by decide +kernel
theorem dX7_carries_69 : decode cX7_carries 69 = .ok (.iload_n 1, 1) := by decide +kernel
theorem dX7_carries_70 : decode cX7_carries 70 = .ok (.iconst 2, 1) := by decide +kernel
theorem dX7_carries_71 : decode cX7_carries 71 = .ok (.iadd, 1) := by decide +kernel
theorem dX7_carries_72 : decode cX7_carries 72 = .ok (.iaload, 1) := by decide +kernel
theorem dX7_carries_73 : decode cX7_carries 73 = .ok (.aload_n 0, 1) := by decide +kernel
theorem dX7_carries_74 : decode cX7_carries 74 = .ok (.getfield 32, 3) := by decide +kernel
theorem dX7_carries_77 : decode cX7_carries 77 = .ok (.iload_n 1, 1) := by decide +kernel
theorem dX7_carries_78 : decode cX7_carries 78 = .ok (.iconst 3, 1) := by decide +kernel
theorem dX7_carries_79 : decode cX7_carries 79 = .ok (.iadd, 1) := by decide +kernel
theorem dX7_carries_80 : decode cX7_carries 80 = .ok (.iaload, 1) := by decide +kernel
theorem dX7_carries_81 : decode cX7_carries 81 = .ok (.invokevirtual 189, 3) := by decide +kernel
theorem dX7_carries_84 : decode cX7_carries 84 = .ok (.ireturn, 1) := by decide +kernel
theorem dX7_carries_85 : decode cX7_carries 85 = .ok (.aload_n 0, 1) := by decide +kernel
theorem dX7_carries_86 : decode cX7_carries 86 = .ok (.aload_n 0, 1) := by decide +kernel
theorem dX7_carries_87 : decode cX7_carries 87 = .ok (.getfield 32, 3) := by decide +kernel
theorem dX7_carries_90 : decode cX7_carries 90 = .ok (.iload_n 1, 1) := by decide +kernel
theorem dX7_carries_91 : decode cX7_carries 91 = .ok (.iconst 1, 1) := by decide +kernel
theorem dX7_carries_92 : decode cX7_carries 92 = .ok (.iadd, 1) := by decide +kernel
theorem dX7_carries_93 : decode cX7_carries 93 = .ok (.iaload, 1) := by decide +kernel
theorem dX7_carries_94 : decode cX7_carries 94 = .ok (.aload_n 0, 1) := by decide +kernel
theorem dX7_carries_95 : decode cX7_carries 95 = .ok (.getfield 32, 3) := by decide +kernel
theorem dX7_carries_98 : decode cX7_carries 98 = .ok (.iload_n 1, 1) := by decide +kernel
theorem dX7_carries_99 : decode cX7_carries 99 = .ok (.iconst 2, 1) := by decide +kernel
theorem dX7_carries_100 : decode cX7_carries 100 = .ok (.iadd, 1) := by decide +kernel
theorem dX7_carries_101 : decode cX7_carries 101 = .ok (.iaload, 1) := by decide +kernel
theorem dX7_carries_102 : decode cX7_carries 102 = .ok (.invokevirtual 192, 3) := by decide +kernel
theorem dX7_carries_105 : decode cX7_carries 105 = .ok (.ireturn, 1) := by decide +kernel
theorem dX7_carries_106 : decode cX7_carries 106 = .ok (.aload_n 0, 1) := by decide +kernel
theorem dX7_carries_107 : decode cX7_carries 107 = .ok (.aload_n 0, 1) := by decide +kernel
theorem dX7_carries_108 : decode cX7_carries 108 = .ok (.getfield 32, 3) := by decide +kernel
theorem dX7_carries_111 : decode cX7_carries 111 = .ok (.iload_n 1, 1) := by decide +kernel
theorem dX7_carries_112 : decode cX7_carries 112 = .ok (.iconst 1, 1) := by decide +kernel
theorem dX7_carries_113 : decode cX7_carries 113 = .ok (.iadd, 1) := by decide +kernel
theorem dX7_carries_114 : decode cX7_carries 114 = .ok (.iaload, 1) := by decide +kernel
theorem dX7_carries_115 : decode cX7_carries 115 = .ok (.iconst 1, 1) := by decide +kernel
theorem dX7_carries_116 : decode cX7_carries 116 = .ok (.invokevirtual 195, 3) := by decide +kernel
theorem dX7_carries_119 : decode cX7_carries 119 = .ok (.ireturn, 1) := by decide +kernel
theorem dX7_carries_120 : decode cX7_carries 120 = .ok (.aload_n 0, 1) := by decide +kernel
theorem dX7_carries_121 : decode cX7_carries 121 = .ok (.aload_n 0, 1) := by decide +kernel
theorem dX7_carries_122 : decode cX7_carries 122 = .ok (.getfield 32, 3) := by decide +kernel
theorem dX7_carries_125 : decode cX7_carries 125 = .ok (.iload_n 1, 1) := by decide +kernel
theorem dX7_carries_126 : decode cX7_carries 126 = .ok (.iconst 1, 1) := by decide +kernel
theorem dX7_carries_127 : decode cX7_carries 127 = .ok (.iadd, 1) := by decide +kernel
theorem dX7_carries_128 : decode cX7_carries 128 = .ok (.iaload, 1) := by decide +kernel
theorem dX7_carries_129 : decode cX7_carries 129 = .ok (.iconst 0, 1) := by decide +kernel
theorem dX7_carries_130 : decode cX7_carries 130 = .ok (.invokevirtual 195, 3) := by decide +kernel
theorem dX7_carries_133 : decode cX7_carries 133 = .ok (.ireturn, 1) := by decide +kernel
theorem dX7_carries_134 : decode cX7_carries 134 = .ok (.aload_n 0, 1) := by decide +kernel
theorem dX7_carries_135 : decode cX7_carries 135 = .ok (.aload_n 0, 1) := by decide +kernel
theorem dX7_carries_136 : decode cX7_carries 136 = .ok (.getfield 32, 3) := by decide +kernel
theorem dX7_carries_139 : decode cX7_carries 139 = .ok (.iload_n 1, 1) := by decide +kernel
theorem dX7_carries_140 : decode cX7_carries 140 = .ok (.iconst 1, 1) := by decide +kernel
theorem dX7_carries_141 : decode cX7_carries 141 = .ok (.iadd, 1) := by decide +kernel
theorem dX7_carries_142 : decode cX7_carries 142 = .ok (.iaload, 1) := by decide +kernel
theorem dX7_carries_143 : decode cX7_carries 143 = .ok (.invokevirtual 199, 3) := by decide +kernel
theorem dX7_carries_146 : decode cX7_carries 146 = .ok (.ireturn, 1) := by decide +kernel
theorem dX7_carries_147 : decode cX7_carries 147 = .ok (.aload_n 0, 1) := by decide +kernel
theorem dX7_carries_148 : decode cX7_carries 148 = .ok (.aload_n 0, 1) := by decide +kernel
theorem dX7_carries_149 : decode cX7_carries 149 = .ok (.getfield 32, 3) := by decide +kernel
theorem dX7_carries_152 : decode cX7_carries 152 = .ok (.iload_n 1, 1) := by decide +kernel
theorem dX7_carries_153 : decode cX7_carries 153 = .ok (.iconst 1, 1) := by decide +kernel
theorem dX7_carries_154 : decode cX7_carries 154 = .ok (.iadd, 1) := by decide +kernel
theorem dX7_carries_155 : decode cX7_carries 155 = .ok (.iaload, 1) := by decide +kernel
theorem dX7_carries_156 : decode cX7_carries 156 = .ok (.invokevirtual 202, 3) := by decide +kernel
theorem dX7_carries_159 : decode cX7_carries 159 = .ok (.ireturn, 1) := by decide +kernel
theorem dX7_read_0 : decode cX7_read 0 = .ok (.aload_n 0, 1) := by decide +kernel
theorem dX7_read_1 : decode cX7_read 1 = .ok (.invokevirtual 205, 3) := by decide +kernel
theorem dX7_read_4 : decode cX7_read 4 = .ok (.istore_n 1, 1) := by decide +kernel
theorem dX7_read_5 : decode cX7_read 5 = .ok (.aload_n 0, 1) := by decide +kernel
theorem dX7_read_6 : decode cX7_read 6 = .ok (.iload_n 1, 1) := by decide +kernel
theorem dX7_read_7 : decode cX7_read 7 = .ok (.ifCond .eq 7, 3) := by decide +kernel
theorem dX7_read_10 : decode cX7_read 10 = .ok (.iconst (-1), 1) := by decide +kernel
theorem dX7_read_11 : decode cX7_read 11 = .ok (.goto 7, 3) := by decide +kernel
theorem dX7_read_14 : decode cX7_read 14 = .ok (.aload_n 0, 1) := by decide +kernel
theorem dX7_read_15 : decode cX7_read 15 = .ok (.getfield 170, 3) := by decide +kernel
theorem dX7_read_18 : decode cX7_read 18 = .ok (.putfield 28, 3) := by decide +kernel
theorem dX7_read_21 : decode cX7_read 21 = .ok (.aload_n 0, 1) := by decide +kernel
theorem dX7_read_22 : decode cX7_read 22 = .ok (.iconst 0, 1) := by decide +kernel
theorem dX7_read_23 : decode cX7_read 23 = .ok (.putfield 167, 3) := by decide +kernel
theorem dX7_read_26 : decode cX7_read 26 = .ok (.aload_n 0, 1) := by decide +kernel
theorem dX7_read_27 : decode cX7_read 27 = .ok (.iload_n 1, 1) := by decide +kernel
theorem dX7_read_28 : decode cX7_read 28 = .ok (.ifCond .eq 7, 3) := by decide +kernel
theorem dX7_read_31 : decode cX7_read 31 = .ok (.iconst 0, 1) := by decide +kernel
theorem dX7_read_32 : decode cX7_read 32 = .ok (.goto 4, 3) := by decide +kernel
theorem dX7_read_35 : decode cX7_read 35 = .ok (.iconst 1, 1) := by decide +kernel
theorem dX7_read_36 : decode cX7_read 36 = .ok (.invokevirtual 70, 3) := by decide +kernel
theorem dX7_read_39 : decode cX7_read 39 = .ok (.ifCond .eq 5, 3) := by decide +kernel
theorem dX7_read_42 : decode cX7_read 42 = .ok (.iconst 0, 1) := by decide +kernel
theorem dX7_read_43 : decode cX7_read 43 = .ok (.ireturn, 1) := by decide +kernel
theorem dX7_read_44 : decode cX7_read 44 = .ok (.aload_n 0, 1) := by decide +kernel
theorem dX7_read_45 : decode cX7_read 45 = .ok (.getfield 7, 3) := by decide +kernel
theorem dX7_read_48 : decode cX7_read 48 = .ok (.iconst 0, 1) := by decide +kernel
theorem dX7_read_49 : decode cX7_read 49 = .ok (.aload_n 0, 1) := by decide +kernel
theorem dX7_read_50 : decode cX7_read 50 = .ok (.getfield 19, 3) := by decide +kernel
theorem dX7_read_53 : decode cX7_read 53 = .ok (.iconst 0, 1) := by decide +kernel
theorem dX7_read_54 : decode cX7_read 54 = .ok (.invokestatic 54, 3) := by decide +kernel
theorem dX7_read_57 : decode cX7_read 57 = .ok (.aload_n 0, 1) := by decide +kernel
theorem dX7_read_58 : decode cX7_read 58 = .ok (.iconst 1, 1) := by decide +kernel
theorem dX7_read_59 : decode cX7_read 59 = .ok (.putfield 48, 3) := by decide +kernel
theorem dX7_read_62 : decode cX7_read 62 = .ok (.aload_n 0, 1) := by decide +kernel
theorem dX7_read_63 : decode cX7_read 63 = .ok (.iconst 0, 1) := by decide +kernel
theorem dX7_read_64 : decode cX7_read 64 = .ok (.putfield 38, 3) := by decide +kernel
theorem dX7_read_67 : decode cX7_read 67 = .ok (.iconst 0, 1) := by decide +kernel
theorem dX7_read_68 : decode cX7_read 68 = .ok (.istore_n 2, 1) := by decide +kernel
theorem dX7_read_69 : decode cX7_read 69 = .ok (.iconst 0, 1) := by decide +kernel
theorem dX7_read_70 : decode cX7_read 70 = .ok (.istore_n 3, 1) := by decide +kernel
theorem dX7_read_71 : decode cX7_read 71 = .ok (.iload_n 2, 1) := by decide +kernel
theorem dX7_read_72 : decode cX7_read 72 = .ok (.aload_n 0, 1) := by decide +kernel
theorem dX7_read_73 : decode cX7_read 73 = .ok (.getfield 176, 3) := by decide +kernel
theorem dX7_read_76 : decode cX7_read 76 = .ok (.if_icmp .ge 24, 3) := by decide +kernel
theorem dX7_read_79 : decode cX7_read 79 = .ok (.aload_n 0, 1) := by decide +kernel
theorem dX7_read_80 : decode cX7_read 80 = .ok (.getfield 35, 3) := by decide +kernel
theorem dX7_read_83 : decode cX7_read 83 = .ok (.ifCond .ne 17, 3) := by decide +kernel
theorem dX7_read_86 : decode cX7_read 86 = .ok (.aload_n 0, 1) := by decide +kernel
theorem dX7_read_87 : decode cX7_read 87 = .ok (.iconst 4, 1) := by decide +kernel
theorem dX7_read_88 : decode cX7_read 88 = .ok (.iload_n 2, 1) := by decide +kernel
theorem dX7_read_89 : decode cX7_read 89 = .ok (.imul, 1) := by decide +kernel
theorem dX7_read_90 : decode cX7_read 90 = .ok (.invokevirtual 208, 3) := by decide +kernel
theorem dX7_read_93 : decode cX7_read 93 = .ok (.istore_n 3, 1) := by decide +kernel
theorem dX7_read_94 : decode cX7_read 94 = .ok (.iinc 2 1, 3) := by decide +kernel
theorem dX7_read_97 : decode cX7_read 97 = .ok (.goto (-26), 3) := by decide +kernel
theorem dX7_read_100 : decode cX7_read 100 = .ok (.aload_n 0, 1) := by decide +kernel
theorem dX7_read_101 : decode cX7_read 101 = .ok (.iconst 0, 1) := by decide +kernel
theorem dX7_read_102 : decode cX7_read 102 = .ok (.putfield 48, 3) := by decide +kernel
theorem dX7_read_105 : decode cX7_read 105 = .ok (.aload_n 0, 1) := by decide +kernel
theorem dX7_read_106 : decode cX7_read 106 = .ok (.getfield 35, 3) := by decide +kernel
theorem dX7_read_109 : decode cX7_read 109 = .ok (.ifCond .le 42, 3) := by decide +kernel
theorem dX7_read_112 : decode cX7_read 112 = .ok (.aload_n 0, 1) := by decide +kernel
theorem dX7_read_113 : decode cX7_read 113 = .ok (.getfield 19, 3) := by decide +kernel
theorem dX7_read_116 : decode cX7_read 116 = .ok (.iconst 0, 1) := by decide +kernel
theorem dX7_read_117 : decode cX7_read 117 = .ok (.aload_n 0, 1) := by decide +kernel
theorem dX7_read_118 : decode cX7_read 118 = .ok (.getfield 7, 3) := by decide +kernel
theorem dX7_read_121 : decode cX7_read 121 = .ok (.iconst 0, 1) := by decide +kernel
theorem dX7_read_122 : decode cX7_read 122 = .ok (.invokestatic 54, 3) := by decide +kernel
theorem dX7_read_125 : decode cX7_read 125 = .ok (.aload_n 0, 1) := by decide +kernel
theorem dX7_read_126 : decode cX7_read 126 = .ok (.aload_n 0, 1) := by decide +kernel
theorem dX7_read_127 : decode cX7_read 127 = .ok (.getfield 38, 3) := by decide +kernel
theorem dX7_read_130 : decode cX7_read 130 = .ok (.ifCond .eq 7, 3) := by decide +kernel
theorem dX7_read_133 : decode cX7_read 133 = .ok (.iconst 2, 1) := by decide +kernel
theorem dX7_read_134 : decode cX7_read 134 = .ok (.goto 4, 3) := by decide +kernel
theorem dX7_read_137 : decode cX7_read 137 = .ok (.iconst 1, 1) := by decide +kernel
theorem dX7_read_138 : decode cX7_read 138 = .ok (.putfield 35, 3) := by decide +kernel
theorem dX7_read_141 : decode cX7_read 141 = .ok (.iload_n 3, 1) := by decide +kernel
theorem dX7_read_142 : decode cX7_read 142 = .ok (.ifCond .ge 7, 3) := by decide +kernel
theorem dX7_read_145 : decode cX7_read 145 = .ok (.iload_n 3, 1) := by decide +kernel
theorem dX7_read_146 : decode cX7_read 146 = .ok (.goto 4, 3) := by decide +kernel
theorem dX7_read_149 : decode cX7_read 149 = .ok (.iconst 0, 1) := by decide +kernel
theorem dX7_read_150 : decode cX7_read 150 = .ok (.ireturn, 1) := by decide +kernel
theorem dX7_read_151 : decode cX7_read 151 = .ok (.aload_n 0, 1) := by decide +kernel
theorem dX7_read_152 : decode cX7_read 152 = .ok (.aload_n 0, 1) := by decide +kernel
theorem dX7_read_153 : decode cX7_read 153 = .ok (.getfield 19, 3) := by decide +kernel
theorem dX7_read_156 : decode cX7_read 156 = .ok (.invokevirtual 62, 3) := by decide +kernel
theorem dX7_read_159 : decode cX7_read 159 = .ok (.aload_n 0, 1) := by decide +kernel
theorem dX7_read_160 : decode cX7_read 160 = .ok (.getfield 176, 3) := by decide +kernel
theorem dX7_read_163 : decode cX7_read 163 = .ok (.ireturn, 1) := by decide +kernel
theorem dX7_errorPosition_0 : decode cX7_errorPosition 0 = .ok (.aload_n 0, 1) := by decide +kernel
theorem dX7_errorPosition_1 : decode cX7_errorPosition 1 = .ok (.iconst 0, 1) := by decide +kernel
theorem dX7_errorPosition_2 : decode cX7_errorPosition 2 = .ok (.putfield 35, 3) := by decide +kernel
theorem dX7_errorPosition_5 : decode cX7_errorPosition 5 = .ok (.aload_n 0, 1) := by decide +kernel
theorem dX7_errorPosition_6 : decode cX7_errorPosition 6 = .ok (.getfield 28, 3) := by decide +kernel
theorem dX7_errorPosition_9 : decode cX7_errorPosition 9 = .ok (.ireturn, 1) := by decide +kernel
theorem dX7_refusal_0 : decode cX7_refusal 0 = .ok (.aload_n 0, 1) := by decide +kernel
theorem dX7_refusal_1 : decode cX7_refusal 1 = .ok (.aload_n 0, 1) := by decide +kernel
theorem dX7_refusal_2 : decode cX7_refusal 2 = .ok (.getfield 42, 3) := by decide +kernel
theorem dX7_refusal_5 : decode cX7_refusal 5 = .ok (.ifCond .ne 7, 3) := by decide +kernel
theorem dX7_refusal_8 : decode cX7_refusal 8 = .ok (.iconst 1, 1) := by decide +kernel
theorem dX7_refusal_9 : decode cX7_refusal 9 = .ok (.goto 4, 3) := by decide +kernel
theorem dX7_refusal_12 : decode cX7_refusal 12 = .ok (.iconst 0, 1) := by decide +kernel
theorem dX7_refusal_13 : decode cX7_refusal 13 = .ok (.invokevirtual 70, 3) := by decide +kernel
theorem dX7_refusal_16 : decode cX7_refusal 16 = .ok (.ifCond .eq 7, 3) := by decide +kernel
theorem dX7_refusal_19 : decode cX7_refusal 19 = .ok (.iconst 0, 1) := by decide +kernel
theorem dX7_refusal_20 : decode cX7_refusal 20 = .ok (.goto 18, 3) := by decide +kernel
theorem dX7_refusal_23 : decode cX7_refusal 23 = .ok (.iload_n 1, 1) := by decide +kernel
theorem dX7_refusal_24 : decode cX7_refusal 24 = .ok (.ifCond .eq 10, 3) := by decide +kernel
theorem dX7_refusal_27 : decode cX7_refusal 27 = .ok (.aload_n 0, 1) := by decide +kernel
theorem dX7_refusal_28 : decode cX7_refusal 28 = .ok (.getfield 45, 3) := by decide +kernel
theorem dX7_refusal_31 : decode cX7_refusal 31 = .ok (.goto 7, 3) := by decide +kernel
theorem dX7_refusal_34 : decode cX7_refusal 34 = .ok (.aload_n 0, 1) := by decide +kernel
theorem dX7_refusal_35 : decode cX7_refusal 35 = .ok (.getfield 42, 3) := by decide +kernel
theorem dX7_refusal_38 : decode cX7_refusal 38 = .ok (.ireturn, 1) := by decide +kernel
theorem dX7_sumOfInnings_0 : decode cX7_sumOfInnings 0 = .ok (.iconst 0, 1) := by decide +kernel
theorem dX7_sumOfInnings_1 : decode cX7_sumOfInnings 1 = .ok (.istore_n 2, 1) := by decide +kernel
theorem dX7_sumOfInnings_2 : decode cX7_sumOfInnings 2 = .ok (.iconst 0, 1) := by decide +kernel
theorem dX7_sumOfInnings_3 : decode cX7_sumOfInnings 3 = .ok (.istore_n 3, 1) := by decide +kernel
theorem dX7_sumOfInnings_4 : decode cX7_sumOfInnings 4 = .ok (.iload_n 3, 1) := by decide +kernel
theorem dX7_sumOfInnings_5 : decode cX7_sumOfInnings 5 = .ok (.aload_n 0, 1) := by decide +kernel
theorem dX7_sumOfInnings_6 : decode cX7_sumOfInnings 6 = .ok (.getfield 7, 3) := by decide +kernel
theorem dX7_sumOfInnings_9 : decode cX7_sumOfInnings 9 = .ok (.bipush 106, 2) := by decide +kernel
theorem dX7_sumOfInnings_11 : decode cX7_sumOfInnings 11 = .ok (.iaload, 1) := by decide +kernel
theorem dX7_sumOfInnings_12 : decode cX7_sumOfInnings 12 = .ok (.if_icmp .ge 18, 3) := by decide +kernel
theorem dX7_sumOfInnings_15 : decode cX7_sumOfInnings 15 = .ok (.iload_n 2, 1) := by decide +kernel
theorem dX7_sumOfInnings_16 : decode cX7_sumOfInnings 16 = .ok (.aload_n 0, 1) := by decide +kernel
theorem dX7_sumOfInnings_17 : decode cX7_sumOfInnings 17 = .ok (.iload_n 3, 1) := by decide +kernel
theorem dX7_sumOfInnings_18 : decode cX7_sumOfInnings 18 = .ok (.iload_n 1, 1) := by decide +kernel
theorem dX7_sumOfInnings_19 : decode cX7_sumOfInnings 19 = .ok (.invokevirtual 88, 3) := by decide +kernel
theorem dX7_sumOfInnings_22 : decode cX7_sumOfInnings 22 = .ok (.iadd, 1) := by decide +kernel
theorem dX7_sumOfInnings_23 : decode cX7_sumOfInnings 23 = .ok (.istore_n 2, 1) := by decide +kernel
theorem dX7_sumOfInnings_24 : decode cX7_sumOfInnings 24 = .ok (.iinc 3 1, 3) := by decide +kernel
theorem dX7_sumOfInnings_27 : decode cX7_sumOfInnings 27 = .ok (.goto (-23), 3) := by decide +kernel
theorem dX7_sumOfInnings_30 : decode cX7_sumOfInnings 30 = .ok (.iload_n 2, 1) := by decide +kernel
theorem dX7_sumOfInnings_31 : decode cX7_sumOfInnings 31 = .ok (.ireturn, 1) := by decide +kernel
theorem dX7_sumOfPitches_0 : decode cX7_sumOfPitches 0 = .ok (.iconst 0, 1) := by decide +kernel
theorem dX7_sumOfPitches_1 : decode cX7_sumOfPitches 1 = .ok (.istore_n 2, 1) := by decide +kernel
theorem dX7_sumOfPitches_2 : decode cX7_sumOfPitches 2 = .ok (.iconst 0, 1) := by decide +kernel
theorem dX7_sumOfPitches_3 : decode cX7_sumOfPitches 3 = .ok (.istore_n 3, 1) := by decide +kernel
theorem dX7_sumOfPitches_4 : decode cX7_sumOfPitches 4 = .ok (.iload_n 3, 1) := by decide +kernel
theorem dX7_sumOfPitches_5 : decode cX7_sumOfPitches 5 = .ok (.aload_n 0, 1) := by decide +kernel
theorem dX7_sumOfPitches_6 : decode cX7_sumOfPitches 6 = .ok (.getfield 7, 3) := by decide +kernel
theorem dX7_sumOfPitches_9 : decode cX7_sumOfPitches 9 = .ok (.bipush 50, 2) := by decide +kernel
theorem dX7_sumOfPitches_11 : decode cX7_sumOfPitches 11 = .ok (.iaload, 1) := by decide +kernel
theorem dX7_sumOfPitches_12 : decode cX7_sumOfPitches 12 = .ok (.if_icmp .ge 18, 3) := by decide +kernel
theorem dX7_sumOfPitches_15 : decode cX7_sumOfPitches 15 = .ok (.iload_n 2, 1) := by decide +kernel
theorem dX7_sumOfPitches_16 : decode cX7_sumOfPitches 16 = .ok (.aload_n 0, 1) := by decide +kernel
theorem dX7_sumOfPitches_17 : decode cX7_sumOfPitches 17 = .ok (.iload_n 3, 1) := by decide +kernel
theorem dX7_sumOfPitches_18 : decode cX7_sumOfPitches 18 = .ok (.iload_n 1, 1) := by decide +kernel
theorem dX7_sumOfPitches_19 : decode cX7_sumOfPitches 19 = .ok (.invokevirtual 98, 3) := by decide +kernel
theorem dX7_sumOfPitches_22 : decode cX7_sumOfPitches 22 = .ok (.iadd, 1) := by decide +kernel
theorem dX7_sumOfPitches_23 : decode cX7_sumOfPitches 23 = .ok (.istore_n 2, 1) := by decide +kernel
theorem dX7_sumOfPitches_24 : decode cX7_sumOfPitches 24 = .ok (.iinc 3 1, 3) := by decide +kernel
theorem dX7_sumOfPitches_27 : decode cX7_sumOfPitches 27 = .ok (.goto (-23), 3) := by decide +kernel
theorem dX7_sumOfPitches_30 : decode cX7_sumOfPitches 30 = .ok (.iload_n 2, 1) := by decide +kernel
theorem dX7_sumOfPitches_31 : decode cX7_sumOfPitches 31 = .ok (.ireturn, 1) := by decide +kernel
theorem dX7_ofHorses_0 : decode cX7_ofHorses 0 = .ok (.iconst 0, 1) := by decide +kernel
theorem dX7_ofHorses_1 : decode cX7_ofHorses 1 = .ok (.istore_n 2, 1) := by decide +kernel
theorem dX7_ofHorses_2 : decode cX7_ofHorses 2 = .ok (.iconst 0, 1) := by decide +kernel
theorem dX7_ofHorses_3 : decode cX7_ofHorses 3 = .ok (.istore_n 3, 1) := by decide +kernel
theorem dX7_ofHorses_4 : decode cX7_ofHorses 4 = .ok (.iload_n 3, 1) := by decide +kernel
theorem dX7_ofHorses_5 : decode cX7_ofHorses 5 = .ok (.aload_n 0, 1) := by decide +kernel
theorem dX7_ofHorses_6 : decode cX7_ofHorses 6 = .ok (.getfield 7, 3) := by decide +kernel
theorem dX7_ofHorses_9 : decode cX7_ofHorses 9 = .ok (.bipush 71, 2) := by decide +kernel
theorem dX7_ofHorses_11 : decode cX7_ofHorses 11 = .ok (.iaload, 1) := by decide +kernel
theorem dX7_ofHorses_12 : decode cX7_ofHorses 12 = .ok (.if_icmp .ge 39, 3) := by decide +kernel
theorem dX7_ofHorses_15 : decode cX7_ofHorses 15 = .ok (.iload_n 2, 1) := by decide +kernel
theorem dX7_ofHorses_16 : decode cX7_ofHorses 16 = .ok (.iload_n 1, 1) := by decide +kernel
theorem dX7_ofHorses_17 : decode cX7_ofHorses 17 = .ok (.ifCond .ne 12, 3) := by decide +kernel
theorem dX7_ofHorses_20 : decode cX7_ofHorses 20 = .ok (.aload_n 0, 1) := by decide +kernel
theorem dX7_ofHorses_21 : decode cX7_ofHorses 21 = .ok (.iload_n 3, 1) := by decide +kernel
theorem dX7_ofHorses_22 : decode cX7_ofHorses 22 = .ok (.iconst 5, 1) := by decide +kernel
theorem dX7_ofHorses_23 : decode cX7_ofHorses 23 = .ok (.invokevirtual 85, 3) := by decide +kernel
theorem dX7_ofHorses_26 : decode cX7_ofHorses 26 = .ok (.goto 17, 3) := by decide +kernel
theorem dX7_ofHorses_29 : decode cX7_ofHorses 29 = .ok (.aload_n 0, 1) := by decide +kernel
theorem dX7_ofHorses_30 : decode cX7_ofHorses 30 = .ok (.iload_n 3, 1) := by decide +kernel
theorem dX7_ofHorses_31 : decode cX7_ofHorses 31 = .ok (.iconst 3, 1) := by decide +kernel
theorem dX7_ofHorses_32 : decode cX7_ofHorses 32 = .ok (.invokevirtual 85, 3) := by decide +kernel
theorem dX7_ofHorses_35 : decode cX7_ofHorses 35 = .ok (.ifCond .le 7, 3) := by decide +kernel
theorem dX7_ofHorses_38 : decode cX7_ofHorses 38 = .ok (.iconst 1, 1) := by decide +kernel
theorem dX7_ofHorses_39 : decode cX7_ofHorses 39 = .ok (.goto 4, 3) := by decide +kernel
theorem dX7_ofHorses_42 : decode cX7_ofHorses 42 = .ok (.iconst 0, 1) := by decide +kernel
theorem dX7_ofHorses_43 : decode cX7_ofHorses 43 = .ok (.iadd, 1) := by decide +kernel
theorem dX7_ofHorses_44 : decode cX7_ofHorses 44 = .ok (.istore_n 2, 1) := by decide +kernel
theorem dX7_ofHorses_45 : decode cX7_ofHorses 45 = .ok (.iinc 3 1, 3) := by decide +kernel
theorem dX7_ofHorses_48 : decode cX7_ofHorses 48 = .ok (.goto (-44), 3) := by decide +kernel
theorem dX7_ofHorses_51 : decode cX7_ofHorses 51 = .ok (.iload_n 2, 1) := by decide +kernel
theorem dX7_ofHorses_52 : decode cX7_ofHorses 52 = .ok (.ireturn, 1) := by decide +kernel
theorem dX7_account_0 : decode cX7_account 0 = .ok (.aload_n 0, 1) := by decide +kernel
theorem dX7_account_1 : decode cX7_account 1 = .ok (.iload_n 1, 1) := by decide +kernel
theorem dX7_account_2 : decode cX7_account 2 = .ok (.iconst 0, 1) := by decide +kernel
theorem dX7_account_3 : decode cX7_account 3 = .ok (.bipush 16, 2) := by decide +kernel
theorem dX7_account_5 : decode cX7_account 5 = .ok (.invokestatic 58, 3) := by decide +kernel
theorem dX7_account_8 : decode cX7_account 8 = .ok (.ifCond .eq 7, 3) := by decide +kernel
theorem dX7_account_11 : decode cX7_account 11 = .ok (.iconst 0, 1) := by decide +kernel
theorem dX7_account_12 : decode cX7_account 12 = .ok (.goto 4, 3) := by decide +kernel
theorem dX7_account_15 : decode cX7_account 15 = .ok (.iconst 1, 1) := by decide +kernel
theorem dX7_account_16 : decode cX7_account 16 = .ok (.invokevirtual 70, 3) := by decide +kernel
theorem dX7_account_19 : decode cX7_account 19 = .ok (.ifCond .eq 5, 3) := by decide +kernel
theorem dX7_account_22 : decode cX7_account 22 = .ok (.iconst 0, 1) := by decide +kernel
theorem dX7_account_23 : decode cX7_account 23 = .ok (.ireturn, 1) := by decide +kernel
theorem dX7_account_24 : decode cX7_account 24 = .ok (.iload_n 1, 1) := by decide +kernel
theorem dX7_account_25 : decode cX7_account 25 = .ok (.tableswitch 184 0 15 #[79, 86, 93, 101, 107, 115, 121, 126, 134, 142, 149, 155, 161, 167, 173, 179], 79) := by decide +kernel
theorem dX7_account_104 : decode cX7_account 104 = .ok (.aload_n 0, 1) := by decide +kernel
theorem dX7_account_105 : decode cX7_account 105 = .ok (.getfield 7, 3) := by decide +kernel
theorem dX7_account_108 : decode cX7_account 108 = .ok (.iconst 0, 1) := by decide +kernel
theorem dX7_account_109 : decode cX7_account 109 = .ok (.iaload, 1) := by decide +kernel
theorem dX7_account_110 : decode cX7_account 110 = .ok (.ireturn, 1) := by decide +kernel
theorem dX7_account_111 : decode cX7_account 111 = .ok (.aload_n 0, 1) := by decide +kernel
theorem dX7_account_112 : decode cX7_account 112 = .ok (.getfield 7, 3) := by decide +kernel
theorem dX7_account_115 : decode cX7_account 115 = .ok (.iconst 1, 1) := by decide +kernel
theorem dX7_account_116 : decode cX7_account 116 = .ok (.iaload, 1) := by decide +kernel
theorem dX7_account_117 : decode cX7_account 117 = .ok (.ireturn, 1) := by decide +kernel
theorem dX7_account_118 : decode cX7_account 118 = .ok (.aload_n 0, 1) := by decide +kernel
theorem dX7_account_119 : decode cX7_account 119 = .ok (.getfield 7, 3) := by decide +kernel
theorem dX7_account_122 : decode cX7_account 122 = .ok (.bipush 50, 2) := by decide +kernel
theorem dX7_account_124 : decode cX7_account 124 = .ok (.iaload, 1) := by decide +kernel
theorem dX7_account_125 : decode cX7_account 125 = .ok (.ireturn, 1) := by decide +kernel
theorem dX7_account_126 : decode cX7_account 126 = .ok (.aload_n 0, 1) := by decide +kernel
theorem dX7_account_127 : decode cX7_account 127 = .ok (.iconst 3, 1) := by decide +kernel
theorem dX7_account_128 : decode cX7_account 128 = .ok (.invokevirtual 211, 3) := by decide +kernel
theorem dX7_account_131 : decode cX7_account 131 = .ok (.ireturn, 1) := by decide +kernel
theorem dX7_account_132 : decode cX7_account 132 = .ok (.aload_n 0, 1) := by decide +kernel
theorem dX7_account_133 : decode cX7_account 133 = .ok (.getfield 7, 3) := by decide +kernel
theorem dX7_account_136 : decode cX7_account 136 = .ok (.bipush 71, 2) := by decide +kernel
theorem dX7_account_138 : decode cX7_account 138 = .ok (.iaload, 1) := by decide +kernel
theorem dX7_account_139 : decode cX7_account 139 = .ok (.ireturn, 1) := by decide +kernel
theorem dX7_account_140 : decode cX7_account 140 = .ok (.aload_n 0, 1) := by decide +kernel
theorem dX7_account_141 : decode cX7_account 141 = .ok (.iconst 1, 1) := by decide +kernel
theorem dX7_account_142 : decode cX7_account 142 = .ok (.invokevirtual 214, 3) := by decide +kernel
theorem dX7_account_145 : decode cX7_account 145 = .ok (.ireturn, 1) := by decide +kernel
theorem dX7_account_146 : decode cX7_account 146 = .ok (.aload_n 0, 1) := by decide +kernel
theorem dX7_account_147 : decode cX7_account 147 = .ok (.invokevirtual 110, 3) := by decide +kernel
theorem dX7_account_150 : decode cX7_account 150 = .ok (.ireturn, 1) := by decide +kernel
theorem dX7_account_151 : decode cX7_account 151 = .ok (.aload_n 0, 1) := by decide +kernel
theorem dX7_account_152 : decode cX7_account 152 = .ok (.getfield 7, 3) := by decide +kernel
theorem dX7_account_155 : decode cX7_account 155 = .ok (.bipush 102, 2) := by decide +kernel
theorem dX7_account_157 : decode cX7_account 157 = .ok (.iaload, 1) := by decide +kernel
theorem dX7_account_158 : decode cX7_account 158 = .ok (.ireturn, 1) := by decide +kernel
theorem dX7_account_159 : decode cX7_account 159 = .ok (.aload_n 0, 1) := by decide +kernel
theorem dX7_account_160 : decode cX7_account 160 = .ok (.getfield 7, 3) := by decide +kernel
theorem dX7_account_163 : decode cX7_account 163 = .ok (.bipush 106, 2) := by decide +kernel
theorem dX7_account_165 : decode cX7_account 165 = .ok (.iaload, 1) := by decide +kernel
theorem dX7_account_166 : decode cX7_account 166 = .ok (.ireturn, 1) := by decide +kernel
theorem dX7_account_167 : decode cX7_account 167 = .ok (.aload_n 0, 1) := by decide +kernel
theorem dX7_account_168 : decode cX7_account 168 = .ok (.bipush 6, 2) := by decide +kernel
theorem dX7_account_170 : decode cX7_account 170 = .ok (.invokevirtual 218, 3) := by decide +kernel
theorem dX7_account_173 : decode cX7_account 173 = .ok (.ireturn, 1) := by decide +kernel
theorem dX7_account_174 : decode cX7_account 174 = .ok (.aload_n 0, 1) := by decide +kernel
theorem dX7_account_175 : decode cX7_account 175 = .ok (.iconst 3, 1) := by decide +kernel
theorem dX7_account_176 : decode cX7_account 176 = .ok (.invokevirtual 218, 3) := by decide +kernel
theorem dX7_account_179 : decode cX7_account 179 = .ok (.ireturn, 1) := by decide +kernel
theorem dX7_account_180 : decode cX7_account 180 = .ok (.aload_n 0, 1) := by decide +kernel
theorem dX7_account_181 : decode cX7_account 181 = .ok (.iconst 4, 1) := by decide +kernel
theorem dX7_account_182 : decode cX7_account 182 = .ok (.invokevirtual 218, 3) := by decide +kernel
theorem dX7_account_185 : decode cX7_account 185 = .ok (.ireturn, 1) := by decide +kernel
theorem dX7_account_186 : decode cX7_account 186 = .ok (.aload_n 0, 1) := by decide +kernel
theorem dX7_account_187 : decode cX7_account 187 = .ok (.iconst 5, 1) := by decide +kernel
theorem dX7_account_188 : decode cX7_account 188 = .ok (.invokevirtual 218, 3) := by decide +kernel
theorem dX7_account_191 : decode cX7_account 191 = .ok (.ireturn, 1) := by decide +kernel
theorem dX7_account_192 : decode cX7_account 192 = .ok (.aload_n 0, 1) := by decide +kernel
theorem dX7_account_193 : decode cX7_account 193 = .ok (.iconst 0, 1) := by decide +kernel
theorem dX7_account_194 : decode cX7_account 194 = .ok (.invokevirtual 214, 3) := by decide +kernel
theorem dX7_account_197 : decode cX7_account 197 = .ok (.ireturn, 1) := by decide +kernel
theorem dX7_account_198 : decode cX7_account 198 = .ok (.aload_n 0, 1) := by decide +kernel
theorem dX7_account_199 : decode cX7_account 199 = .ok (.iconst 0, 1) := by decide +kernel
theorem dX7_account_200 : decode cX7_account 200 = .ok (.invokevirtual 211, 3) := by decide +kernel
theorem dX7_account_203 : decode cX7_account 203 = .ok (.ireturn, 1) := by decide +kernel
theorem dX7_account_204 : decode cX7_account 204 = .ok (.aload_n 0, 1) := by decide +kernel
theorem dX7_account_205 : decode cX7_account 205 = .ok (.getfield 167, 3) := by decide +kernel
theorem dX7_account_208 : decode cX7_account 208 = .ok (.ireturn, 1) := by decide +kernel
theorem dX7_account_209 : decode cX7_account 209 = .ok (.aload_n 0, 1) := by decide +kernel
theorem dX7_account_210 : decode cX7_account 210 = .ok (.getfield 51, 3) := by decide +kernel
theorem dX7_account_213 : decode cX7_account 213 = .ok (.ireturn, 1) := by decide +kernel
theorem dX7_isWell_0 : decode cX7_isWell 0 = .ok (.aload_n 0, 1) := by decide +kernel
theorem dX7_isWell_1 : decode cX7_isWell 1 = .ok (.iconst 0, 1) := by decide +kernel
theorem dX7_isWell_2 : decode cX7_isWell 2 = .ok (.putfield 35, 3) := by decide +kernel
theorem dX7_isWell_5 : decode cX7_isWell 5 = .ok (.aload_n 0, 1) := by decide +kernel
theorem dX7_isWell_6 : decode cX7_isWell 6 = .ok (.iconst 3, 1) := by decide +kernel
theorem dX7_isWell_7 : decode cX7_isWell 7 = .ok (.invokevirtual 218, 3) := by decide +kernel
theorem dX7_isWell_10 : decode cX7_isWell 10 = .ok (.aload_n 0, 1) := by decide +kernel
theorem dX7_isWell_11 : decode cX7_isWell 11 = .ok (.iconst 4, 1) := by decide +kernel
theorem dX7_isWell_12 : decode cX7_isWell 12 = .ok (.invokevirtual 211, 3) := by decide +kernel
theorem dX7_isWell_15 : decode cX7_isWell 15 = .ok (.if_icmp .ne 7, 3) := by decide +kernel
theorem dX7_isWell_18 : decode cX7_isWell 18 = .ok (.iconst 1, 1) := by decide +kernel
theorem dX7_isWell_19 : decode cX7_isWell 19 = .ok (.goto 4, 3) := by decide +kernel
theorem dX7_isWell_22 : decode cX7_isWell 22 = .ok (.iconst 0, 1) := by decide +kernel
theorem dX7_isWell_23 : decode cX7_isWell 23 = .ok (.istore_n 1, 1) := by decide +kernel
theorem dX7_isWell_24 : decode cX7_isWell 24 = .ok (.iconst 0, 1) := by decide +kernel
theorem dX7_isWell_25 : decode cX7_isWell 25 = .ok (.istore_n 2, 1) := by decide +kernel
theorem dX7_isWell_26 : decode cX7_isWell 26 = .ok (.iload_n 2, 1) := by decide +kernel
theorem dX7_isWell_27 : decode cX7_isWell 27 = .ok (.aload_n 0, 1) := by decide +kernel
theorem dX7_isWell_28 : decode cX7_isWell 28 = .ok (.getfield 7, 3) := by decide +kernel
theorem dX7_isWell_31 : decode cX7_isWell 31 = .ok (.bipush 106, 2) := by decide +kernel
theorem dX7_isWell_33 : decode cX7_isWell 33 = .ok (.iaload, 1) := by decide +kernel
theorem dX7_isWell_34 : decode cX7_isWell 34 = .ok (.if_icmp .ge 47, 3) := by decide +kernel
theorem dX7_isWell_37 : decode cX7_isWell 37 = .ok (.iload_n 1, 1) := by decide +kernel
theorem dX7_isWell_38 : decode cX7_isWell 38 = .ok (.aload_n 0, 1) := by decide +kernel
theorem dX7_isWell_39 : decode cX7_isWell 39 = .ok (.iload_n 2, 1) := by decide +kernel
theorem dX7_isWell_40 : decode cX7_isWell 40 = .ok (.iconst 4, 1) := by decide +kernel
theorem dX7_isWell_41 : decode cX7_isWell 41 = .ok (.invokevirtual 88, 3) := by decide +kernel
theorem dX7_isWell_44 : decode cX7_isWell 44 = .ok (.aload_n 0, 1) := by decide +kernel
theorem dX7_isWell_45 : decode cX7_isWell 45 = .ok (.iload_n 2, 1) := by decide +kernel
theorem dX7_isWell_46 : decode cX7_isWell 46 = .ok (.invokevirtual 153, 3) := by decide +kernel
theorem dX7_isWell_49 : decode cX7_isWell 49 = .ok (.if_icmp .ne 23, 3) := by decide +kernel
theorem dX7_isWell_52 : decode cX7_isWell 52 = .ok (.aload_n 0, 1) := by decide +kernel
theorem dX7_isWell_53 : decode cX7_isWell 53 = .ok (.iload_n 2, 1) := by decide +kernel
theorem dX7_isWell_54 : decode cX7_isWell 54 = .ok (.iconst 5, 1) := by decide +kernel
theorem dX7_isWell_55 : decode cX7_isWell 55 = .ok (.invokevirtual 88, 3) := by decide +kernel
theorem dX7_isWell_58 : decode cX7_isWell 58 = .ok (.aload_n 0, 1) := by decide +kernel
theorem dX7_isWell_59 : decode cX7_isWell 59 = .ok (.iload_n 2, 1) := by decide +kernel
theorem dX7_isWell_60 : decode cX7_isWell 60 = .ok (.bipush 12, 2) := by decide +kernel
theorem dX7_isWell_62 : decode cX7_isWell 62 = .ok (.invokevirtual 88, 3) := by decide +kernel
theorem dX7_isWell_65 : decode cX7_isWell 65 = .ok (.if_icmp .ne 7, 3) := by decide +kernel
theorem dX7_isWell_68 : decode cX7_isWell 68 = .ok (.iconst 1, 1) := by decide +kernel
theorem dX7_isWell_69 : decode cX7_isWell 69 = .ok (.goto 4, 3) := by decide +kernel
theorem dX7_isWell_72 : decode cX7_isWell 72 = .ok (.iconst 0, 1) := by decide +kernel
theorem dX7_isWell_73 : decode cX7_isWell 73 = .ok (.iand, 1) := by decide +kernel
theorem dX7_isWell_74 : decode cX7_isWell 74 = .ok (.istore_n 1, 1) := by decide +kernel
theorem dX7_isWell_75 : decode cX7_isWell 75 = .ok (.iinc 2 1, 3) := by decide +kernel
theorem dX7_isWell_78 : decode cX7_isWell 78 = .ok (.goto (-52), 3) := by decide +kernel
theorem dX7_isWell_81 : decode cX7_isWell 81 = .ok (.iconst 0, 1) := by decide +kernel
theorem dX7_isWell_82 : decode cX7_isWell 82 = .ok (.istore_n 2, 1) := by decide +kernel
theorem dX7_isWell_83 : decode cX7_isWell 83 = .ok (.iload_n 2, 1) := by decide +kernel
theorem dX7_isWell_84 : decode cX7_isWell 84 = .ok (.aload_n 0, 1) := by decide +kernel
theorem dX7_isWell_85 : decode cX7_isWell 85 = .ok (.getfield 7, 3) := by decide +kernel
theorem dX7_isWell_88 : decode cX7_isWell 88 = .ok (.bipush 50, 2) := by decide +kernel
theorem dX7_isWell_90 : decode cX7_isWell 90 = .ok (.iaload, 1) := by decide +kernel
theorem dX7_isWell_91 : decode cX7_isWell 91 = .ok (.if_icmp .ge 33, 3) := by decide +kernel
theorem dX7_isWell_94 : decode cX7_isWell 94 = .ok (.iload_n 1, 1) := by decide +kernel
theorem dX7_isWell_95 : decode cX7_isWell 95 = .ok (.aload_n 0, 1) := by decide +kernel
theorem dX7_isWell_96 : decode cX7_isWell 96 = .ok (.iload_n 2, 1) := by decide +kernel
theorem dX7_isWell_97 : decode cX7_isWell 97 = .ok (.invokevirtual 94, 3) := by decide +kernel
theorem dX7_isWell_100 : decode cX7_isWell 100 = .ok (.ifCond .lt 11, 3) := by decide +kernel
theorem dX7_isWell_103 : decode cX7_isWell 103 = .ok (.aload_n 0, 1) := by decide +kernel
theorem dX7_isWell_104 : decode cX7_isWell 104 = .ok (.iload_n 2, 1) := by decide +kernel
theorem dX7_isWell_105 : decode cX7_isWell 105 = .ok (.invokevirtual 101, 3) := by decide +kernel
theorem dX7_isWell_108 : decode cX7_isWell 108 = .ok (.ifCond .ge 7, 3) := by decide +kernel
theorem dX7_isWell_111 : decode cX7_isWell 111 = .ok (.iconst 1, 1) := by decide +kernel
theorem dX7_isWell_112 : decode cX7_isWell 112 = .ok (.goto 4, 3) := by decide +kernel
theorem dX7_isWell_115 : decode cX7_isWell 115 = .ok (.iconst 0, 1) := by decide +kernel
theorem dX7_isWell_116 : decode cX7_isWell 116 = .ok (.iand, 1) := by decide +kernel
theorem dX7_isWell_117 : decode cX7_isWell 117 = .ok (.istore_n 1, 1) := by decide +kernel
theorem dX7_isWell_118 : decode cX7_isWell 118 = .ok (.iinc 2 1, 3) := by decide +kernel
theorem dX7_isWell_121 : decode cX7_isWell 121 = .ok (.goto (-38), 3) := by decide +kernel
theorem dX7_isWell_124 : decode cX7_isWell 124 = .ok (.iload_n 1, 1) := by decide +kernel
theorem dX7_isWell_125 : decode cX7_isWell 125 = .ok (.ireturn, 1) := by decide +kernel
theorem dX7_meanRuns_0 : decode cX7_meanRuns 0 = .ok (.aload_n 0, 1) := by decide +kernel
theorem dX7_meanRuns_1 : decode cX7_meanRuns 1 = .ok (.aload_n 0, 1) := by decide +kernel
theorem dX7_meanRuns_2 : decode cX7_meanRuns 2 = .ok (.getfield 7, 3) := by decide +kernel
theorem dX7_meanRuns_5 : decode cX7_meanRuns 5 = .ok (.bipush 106, 2) := by decide +kernel
theorem dX7_meanRuns_7 : decode cX7_meanRuns 7 = .ok (.iaload, 1) := by decide +kernel
theorem dX7_meanRuns_8 : decode cX7_meanRuns 8 = .ok (.ifCond .ne 7, 3) := by decide +kernel
theorem dX7_meanRuns_11 : decode cX7_meanRuns 11 = .ok (.iconst 1, 1) := by decide +kernel
theorem dX7_meanRuns_12 : decode cX7_meanRuns 12 = .ok (.goto 4, 3) := by decide +kernel
theorem dX7_meanRuns_15 : decode cX7_meanRuns 15 = .ok (.iconst 0, 1) := by decide +kernel
theorem dX7_meanRuns_16 : decode cX7_meanRuns 16 = .ok (.invokevirtual 70, 3) := by decide +kernel
theorem dX7_meanRuns_19 : decode cX7_meanRuns 19 = .ok (.ifCond .eq 7, 3) := by decide +kernel
theorem dX7_meanRuns_22 : decode cX7_meanRuns 22 = .ok (.dconst 0, 1) := by decide +kernel
theorem dX7_meanRuns_23 : decode cX7_meanRuns 23 = .ok (.goto 18, 3) := by decide +kernel
theorem dX7_meanRuns_26 : decode cX7_meanRuns 26 = .ok (.aload_n 0, 1) := by decide +kernel
theorem dX7_meanRuns_27 : decode cX7_meanRuns 27 = .ok (.iconst 4, 1) := by decide +kernel
theorem dX7_meanRuns_28 : decode cX7_meanRuns 28 = .ok (.invokevirtual 218, 3) := by decide +kernel
theorem dX7_meanRuns_31 : decode cX7_meanRuns 31 = .ok (.i2d, 1) := by decide +kernel
theorem dX7_meanRuns_32 : decode cX7_meanRuns 32 = .ok (.aload_n 0, 1) := by decide +kernel
theorem dX7_meanRuns_33 : decode cX7_meanRuns 33 = .ok (.getfield 7, 3) := by decide +kernel
theorem dX7_meanRuns_36 : decode cX7_meanRuns 36 = .ok (.bipush 106, 2) := by decide +kernel
theorem dX7_meanRuns_38 : decode cX7_meanRuns 38 = .ok (.iaload, 1) := by decide +kernel
theorem dX7_meanRuns_39 : decode cX7_meanRuns 39 = .ok (.i2d, 1) := by decide +kernel
theorem dX7_meanRuns_40 : decode cX7_meanRuns 40 = .ok (.ddiv, 1) := by decide +kernel
theorem dX7_meanRuns_41 : decode cX7_meanRuns 41 = .ok (.dreturn, 1) := by decide +kernel
theorem dX7_wickets_0 : decode cX7_wickets 0 = .ok (.aload_n 0, 1) := by decide +kernel
theorem dX7_wickets_1 : decode cX7_wickets 1 = .ok (.aload_n 0, 1) := by decide +kernel
theorem dX7_wickets_2 : decode cX7_wickets 2 = .ok (.iconst 3, 1) := by decide +kernel
theorem dX7_wickets_3 : decode cX7_wickets 3 = .ok (.invokevirtual 218, 3) := by decide +kernel
theorem dX7_wickets_6 : decode cX7_wickets 6 = .ok (.ifCond .ne 7, 3) := by decide +kernel
theorem dX7_wickets_9 : decode cX7_wickets 9 = .ok (.iconst 1, 1) := by decide +kernel
theorem dX7_wickets_10 : decode cX7_wickets 10 = .ok (.goto 4, 3) := by decide +kernel
theorem dX7_wickets_13 : decode cX7_wickets 13 = .ok (.iconst 0, 1) := by decide +kernel
theorem dX7_wickets_14 : decode cX7_wickets 14 = .ok (.invokevirtual 70, 3) := by decide +kernel
theorem dX7_wickets_17 : decode cX7_wickets 17 = .ok (.ifCond .eq 7, 3) := by decide +kernel
theorem dX7_wickets_20 : decode cX7_wickets 20 = .ok (.fconst 0, 1) := by decide +kernel
theorem dX7_wickets_21 : decode cX7_wickets 21 = .ok (.goto 16, 3) := by decide +kernel
theorem dX7_wickets_24 : decode cX7_wickets 24 = .ok (.aload_n 0, 1) := by decide +kernel
theorem dX7_wickets_25 : decode cX7_wickets 25 = .ok (.iconst 5, 1) := by decide +kernel
theorem dX7_wickets_26 : decode cX7_wickets 26 = .ok (.invokevirtual 218, 3) := by decide +kernel
theorem dX7_wickets_29 : decode cX7_wickets 29 = .ok (.i2f, 1) := by decide +kernel
theorem dX7_wickets_30 : decode cX7_wickets 30 = .ok (.aload_n 0, 1) := by decide +kernel
theorem dX7_wickets_31 : decode cX7_wickets 31 = .ok (.iconst 3, 1) := by decide +kernel
theorem dX7_wickets_32 : decode cX7_wickets 32 = .ok (.invokevirtual 218, 3) := by decide +kernel
theorem dX7_wickets_35 : decode cX7_wickets 35 = .ok (.i2f, 1) := by decide +kernel
theorem dX7_wickets_36 : decode cX7_wickets 36 = .ok (.fdiv, 1) := by decide +kernel
theorem dX7_wickets_37 : decode cX7_wickets 37 = .ok (.freturn, 1) := by decide +kernel
theorem dX7_undo_0 : decode cX7_undo 0 = .ok (.aload_n 0, 1) := by decide +kernel
theorem dX7_undo_1 : decode cX7_undo 1 = .ok (.aload_n 0, 1) := by decide +kernel
theorem dX7_undo_2 : decode cX7_undo 2 = .ok (.getfield 51, 3) := by decide +kernel
theorem dX7_undo_5 : decode cX7_undo 5 = .ok (.ifCond .ne 7, 3) := by decide +kernel
theorem dX7_undo_8 : decode cX7_undo 8 = .ok (.iconst 1, 1) := by decide +kernel
theorem dX7_undo_9 : decode cX7_undo 9 = .ok (.goto 4, 3) := by decide +kernel
theorem dX7_undo_12 : decode cX7_undo 12 = .ok (.iconst 0, 1) := by decide +kernel
theorem dX7_undo_13 : decode cX7_undo 13 = .ok (.invokevirtual 70, 3) := by decide +kernel
theorem dX7_undo_16 : decode cX7_undo 16 = .ok (.ifCond .eq 5, 3) := by decide +kernel
theorem dX7_undo_19 : decode cX7_undo 19 = .ok (.iconst 0, 1) := by decide +kernel
theorem dX7_undo_20 : decode cX7_undo 20 = .ok (.ireturn, 1) := by decide +kernel
theorem dX7_undo_21 : decode cX7_undo 21 = .ok (.aload_n 0, 1) := by decide +kernel
theorem dX7_undo_22 : decode cX7_undo 22 = .ok (.dup, 1) := by decide +kernel
theorem dX7_undo_23 : decode cX7_undo 23 = .ok (.getfield 51, 3) := by decide +kernel
theorem dX7_undo_26 : decode cX7_undo 26 = .ok (.iconst 1, 1) := by decide +kernel
theorem dX7_undo_27 : decode cX7_undo 27 = .ok (.isub, 1) := by decide +kernel
theorem dX7_undo_28 : decode cX7_undo 28 = .ok (.putfield 51, 3) := by decide +kernel
theorem dX7_undo_31 : decode cX7_undo 31 = .ok (.aload_n 0, 1) := by decide +kernel
theorem dX7_undo_32 : decode cX7_undo 32 = .ok (.getfield 13, 3) := by decide +kernel
theorem dX7_undo_35 : decode cX7_undo 35 = .ok (.sipush 275, 3) := by decide +kernel
theorem dX7_undo_38 : decode cX7_undo 38 = .ok (.aload_n 0, 1) := by decide +kernel
theorem dX7_undo_39 : decode cX7_undo 39 = .ok (.getfield 51, 3) := by decide +kernel
theorem dX7_undo_42 : decode cX7_undo 42 = .ok (.imul, 1) := by decide +kernel
theorem dX7_undo_43 : decode cX7_undo 43 = .ok (.aload_n 0, 1) := by decide +kernel
theorem dX7_undo_44 : decode cX7_undo 44 = .ok (.getfield 7, 3) := by decide +kernel
theorem dX7_undo_47 : decode cX7_undo 47 = .ok (.iconst 0, 1) := by decide +kernel
theorem dX7_undo_48 : decode cX7_undo 48 = .ok (.invokestatic 54, 3) := by decide +kernel
theorem dX7_undo_51 : decode cX7_undo 51 = .ok (.aload_n 0, 1) := by decide +kernel
theorem dX7_undo_52 : decode cX7_undo 52 = .ok (.getfield 51, 3) := by decide +kernel
theorem dX7_undo_55 : decode cX7_undo 55 = .ok (.ireturn, 1) := by decide +kernel
theorem dX7_save_0 : decode cX7_save 0 = .ok (.aload_n 0, 1) := by decide +kernel
theorem dX7_save_1 : decode cX7_save 1 = .ok (.iconst 0, 1) := by decide +kernel
theorem dX7_save_2 : decode cX7_save 2 = .ok (.putfield 35, 3) := by decide +kernel
theorem dX7_save_5 : decode cX7_save 5 = .ok (.aload_n 0, 1) := by decide +kernel
theorem dX7_save_6 : decode cX7_save 6 = .ok (.iconst 1, 1) := by decide +kernel
theorem dX7_save_7 : decode cX7_save 7 = .ok (.putfield 221, 3) := by decide +kernel
theorem dX7_save_10 : decode cX7_save 10 = .ok (.aload_n 0, 1) := by decide +kernel
theorem dX7_save_11 : decode cX7_save 11 = .ok (.getfield 7, 3) := by decide +kernel
theorem dX7_save_14 : decode cX7_save 14 = .ok (.iconst 0, 1) := by decide +kernel
theorem dX7_save_15 : decode cX7_save 15 = .ok (.aload_n 0, 1) := by decide +kernel
theorem dX7_save_16 : decode cX7_save 16 = .ok (.getfield 16, 3) := by decide +kernel
theorem dX7_save_19 : decode cX7_save 19 = .ok (.iconst 0, 1) := by decide +kernel
theorem dX7_save_20 : decode cX7_save 20 = .ok (.invokestatic 54, 3) := by decide +kernel
theorem dX7_save_23 : decode cX7_save 23 = .ok (.aload_n 0, 1) := by decide +kernel
theorem dX7_save_24 : decode cX7_save 24 = .ok (.getfield 7, 3) := by decide +kernel
theorem dX7_save_27 : decode cX7_save 27 = .ok (.iconst 0, 1) := by decide +kernel
theorem dX7_save_28 : decode cX7_save 28 = .ok (.iaload, 1) := by decide +kernel
theorem dX7_save_29 : decode cX7_save 29 = .ok (.ireturn, 1) := by decide +kernel
theorem dX7_restore_0 : decode cX7_restore 0 = .ok (.aload_n 0, 1) := by decide +kernel
theorem dX7_restore_1 : decode cX7_restore 1 = .ok (.aload_n 0, 1) := by decide +kernel
theorem dX7_restore_2 : decode cX7_restore 2 = .ok (.getfield 221, 3) := by decide +kernel
theorem dX7_restore_5 : decode cX7_restore 5 = .ok (.ifCond .eq 7, 3) := by decide +kernel
theorem dX7_restore_8 : decode cX7_restore 8 = .ok (.iconst 0, 1) := by decide +kernel
theorem dX7_restore_9 : decode cX7_restore 9 = .ok (.goto 4, 3) := by decide +kernel
theorem dX7_restore_12 : decode cX7_restore 12 = .ok (.iconst 1, 1) := by decide +kernel
theorem dX7_restore_13 : decode cX7_restore 13 = .ok (.invokevirtual 70, 3) := by decide +kernel
theorem dX7_restore_16 : decode cX7_restore 16 = .ok (.ifCond .eq 5, 3) := by decide +kernel
theorem dX7_restore_19 : decode cX7_restore 19 = .ok (.iconst 0, 1) := by decide +kernel
theorem dX7_restore_20 : decode cX7_restore 20 = .ok (.ireturn, 1) := by decide +kernel
theorem dX7_restore_21 : decode cX7_restore 21 = .ok (.aload_n 0, 1) := by decide +kernel
theorem dX7_restore_22 : decode cX7_restore 22 = .ok (.getfield 16, 3) := by decide +kernel
theorem dX7_restore_25 : decode cX7_restore 25 = .ok (.iconst 0, 1) := by decide +kernel
theorem dX7_restore_26 : decode cX7_restore 26 = .ok (.aload_n 0, 1) := by decide +kernel
theorem dX7_restore_27 : decode cX7_restore 27 = .ok (.getfield 7, 3) := by decide +kernel
theorem dX7_restore_30 : decode cX7_restore 30 = .ok (.iconst 0, 1) := by decide +kernel
theorem dX7_restore_31 : decode cX7_restore 31 = .ok (.invokestatic 54, 3) := by decide +kernel
theorem dX7_restore_34 : decode cX7_restore 34 = .ok (.aload_n 0, 1) := by decide +kernel
theorem dX7_restore_35 : decode cX7_restore 35 = .ok (.iconst 0, 1) := by decide +kernel
theorem dX7_restore_36 : decode cX7_restore 36 = .ok (.putfield 51, 3) := by decide +kernel
theorem dX7_restore_39 : decode cX7_restore 39 = .ok (.aload_n 0, 1) := by decide +kernel
theorem dX7_restore_40 : decode cX7_restore 40 = .ok (.getfield 7, 3) := by decide +kernel
theorem dX7_restore_43 : decode cX7_restore 43 = .ok (.iconst 0, 1) := by decide +kernel
theorem dX7_restore_44 : decode cX7_restore 44 = .ok (.iaload, 1) := by decide +kernel
theorem dX7_restore_45 : decode cX7_restore 45 = .ok (.ireturn, 1) := by decide +kernel
