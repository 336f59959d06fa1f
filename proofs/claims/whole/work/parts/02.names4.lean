theorem dX13_boatAtRank_6 : decode cX13_boatAtRank 6 = .ok (.istore_n 2, 1) := by decide +kernel
theorem dX13_boatAtRank_7 : decode cX13_boatAtRank 7 = .ok (.iload_n 2, 1) := by decide +kernel
theorem dX13_boatAtRank_8 : decode cX13_boatAtRank 8 = .ok (.aload_n 0, 1) := by decide +kernel
theorem dX13_boatAtRank_9 : decode cX13_boatAtRank 9 = .ok (.getfield 16, 3) := by decide +kernel
theorem dX13_boatAtRank_12 : decode cX13_boatAtRank 12 = .ok (.iconst 3, 1) := by decide +kernel
theorem dX13_boatAtRank_13 : decode cX13_boatAtRank 13 = .ok (.iaload, 1) := by decide +kernel
theorem dX13_boatAtRank_14 : decode cX13_boatAtRank 14 = .ok (.if_icmp .ge 109, 3) := by decide +kernel
theorem dX13_boatAtRank_17 : decode cX13_boatAtRank 17 = .ok (.iconst 0, 1) := by decide +kernel
theorem dX13_boatAtRank_18 : decode cX13_boatAtRank 18 = .ok (.istore_n 3, 1) := by decide +kernel
theorem dX13_boatAtRank_19 : decode cX13_boatAtRank 19 = .ok (.iconst 0, 1) := by decide +kernel
theorem dX13_boatAtRank_20 : decode cX13_boatAtRank 20 = .ok (.istore 4, 2) := by decide +kernel
theorem dX13_boatAtRank_22 : decode cX13_boatAtRank 22 = .ok (.iload 4, 2) := by decide +kernel
theorem dX13_boatAtRank_24 : decode cX13_boatAtRank 24 = .ok (.aload_n 0, 1) := by decide +kernel
theorem dX13_boatAtRank_25 : decode cX13_boatAtRank 25 = .ok (.getfield 16, 3) := by decide +kernel
theorem dX13_boatAtRank_28 : decode cX13_boatAtRank 28 = .ok (.iconst 3, 1) := by decide +kernel
theorem dX13_boatAtRank_29 : decode cX13_boatAtRank 29 = .ok (.iaload, 1) := by decide +kernel
theorem dX13_boatAtRank_30 : decode cX13_boatAtRank 30 = .ok (.if_icmp .ge 71, 3) := by decide +kernel
theorem dX13_boatAtRank_33 : decode cX13_boatAtRank 33 = .ok (.iload_n 3, 1) := by decide +kernel
theorem dX13_boatAtRank_34 : decode cX13_boatAtRank 34 = .ok (.aload_n 0, 1) := by decide +kernel
theorem dX13_boatAtRank_35 : decode cX13_boatAtRank 35 = .ok (.getfield 16, 3) := by decide +kernel
theorem dX13_boatAtRank_38 : decode cX13_boatAtRank 38 = .ok (.iload 4, 2) := by decide +kernel
theorem dX13_boatAtRank_40 : decode cX13_boatAtRank 40 = .ok (.iconst 3, 1) := by decide +kernel
theorem dX13_boatAtRank_41 : decode cX13_boatAtRank 41 = .ok (.invokestatic 74, 3) := by decide +kernel
theorem dX13_boatAtRank_44 : decode cX13_boatAtRank 44 = .ok (.iaload, 1) := by decide +kernel
theorem dX13_boatAtRank_45 : decode cX13_boatAtRank 45 = .ok (.aload_n 0, 1) := by decide +kernel
theorem dX13_boatAtRank_46 : decode cX13_boatAtRank 46 = .ok (.getfield 16, 3) := by decide +kernel
theorem dX13_boatAtRank_49 : decode cX13_boatAtRank 49 = .ok (.iload_n 2, 1) := by decide +kernel
theorem dX13_boatAtRank_50 : decode cX13_boatAtRank 50 = .ok (.iconst 3, 1) := by decide +kernel
theorem dX13_boatAtRank_51 : decode cX13_boatAtRank 51 = .ok (.invokestatic 74, 3) := by decide +kernel
theorem dX13_boatAtRank_54 : decode cX13_boatAtRank 54 = .ok (.iaload, 1) := by decide +kernel
theorem dX13_boatAtRank_55 : decode cX13_boatAtRank 55 = .ok (.if_icmp .gt 33, 3) := by decide +kernel
theorem dX13_boatAtRank_58 : decode cX13_boatAtRank 58 = .ok (.aload_n 0, 1) := by decide +kernel
theorem dX13_boatAtRank_59 : decode cX13_boatAtRank 59 = .ok (.getfield 16, 3) := by decide +kernel
theorem dX13_boatAtRank_62 : decode cX13_boatAtRank 62 = .ok (.iload 4, 2) := by decide +kernel
theorem dX13_boatAtRank_64 : decode cX13_boatAtRank 64 = .ok (.iconst 3, 1) := by decide +kernel
theorem dX13_boatAtRank_65 : decode cX13_boatAtRank 65 = .ok (.invokestatic 74, 3) := by decide +kernel
theorem dX13_boatAtRank_68 : decode cX13_boatAtRank 68 = .ok (.iaload, 1) := by decide +kernel
theorem dX13_boatAtRank_69 : decode cX13_boatAtRank 69 = .ok (.aload_n 0, 1) := by decide +kernel
theorem dX13_boatAtRank_70 : decode cX13_boatAtRank 70 = .ok (.getfield 16, 3) := by decide +kernel
theorem dX13_boatAtRank_73 : decode cX13_boatAtRank 73 = .ok (.iload_n 2, 1) := by decide +kernel
theorem dX13_boatAtRank_74 : decode cX13_boatAtRank 74 = .ok (.iconst 3, 1) := by decide +kernel
theorem dX13_boatAtRank_75 : decode cX13_boatAtRank 75 = .ok (.invokestatic 74, 3) := by decide +kernel
theorem dX13_boatAtRank_78 : decode cX13_boatAtRank 78 = .ok (.iaload, 1) := by decide +kernel
theorem dX13_boatAtRank_79 : decode cX13_boatAtRank 79 = .ok (.if_icmp .ne 13, 3) := by decide +kernel
theorem dX13_boatAtRank_82 : decode cX13_boatAtRank 82 = .ok (.iload 4, 2) := by decide +kernel
theorem dX13_boatAtRank_84 : decode cX13_boatAtRank 84 = .ok (.iload_n 2, 1) := by decide +kernel
theorem dX13_boatAtRank_85 : decode cX13_boatAtRank 85 = .ok (.if_icmp .ge 7, 3) := by decide +kernel
theorem dX13_boatAtRank_88 : decode cX13_boatAtRank 88 = .ok (.iconst 1, 1) := by decide +kernel
theorem dX13_boatAtRank_89 : decode cX13_boatAtRank 89 = .ok (.goto 4, 3) := by decide +kernel
theorem dX13_boatAtRank_92 : decode cX13_boatAtRank 92 = .ok (.iconst 0, 1) := by decide +kernel
theorem dX13_boatAtRank_93 : decode cX13_boatAtRank 93 = .ok (.iadd, 1) := by decide +kernel
theorem dX13_boatAtRank_94 : decode cX13_boatAtRank 94 = .ok (.istore_n 3, 1) := by decide +kernel
theorem dX13_boatAtRank_95 : decode cX13_boatAtRank 95 = .ok (.iinc 4 1, 3) := by decide +kernel
theorem dX13_boatAtRank_98 : decode cX13_boatAtRank 98 = .ok (.goto (-76), 3) := by decide +kernel
theorem dX13_boatAtRank_101 : decode cX13_boatAtRank 101 = .ok (.iload_n 3, 1) := by decide +kernel
theorem dX13_boatAtRank_102 : decode cX13_boatAtRank 102 = .ok (.iload_n 1, 1) := by decide +kernel
theorem dX13_boatAtRank_103 : decode cX13_boatAtRank 103 = .ok (.if_icmp .ne 14, 3) := by decide +kernel
theorem dX13_boatAtRank_106 : decode cX13_boatAtRank 106 = .ok (.aload_n 0, 1) := by decide +kernel
theorem dX13_boatAtRank_107 : decode cX13_boatAtRank 107 = .ok (.getfield 16, 3) := by decide +kernel
theorem dX13_boatAtRank_110 : decode cX13_boatAtRank 110 = .ok (.iload_n 2, 1) := by decide +kernel
theorem dX13_boatAtRank_111 : decode cX13_boatAtRank 111 = .ok (.iconst 0, 1) := by decide +kernel
theorem dX13_boatAtRank_112 : decode cX13_boatAtRank 112 = .ok (.invokestatic 74, 3) := by decide +kernel
theorem dX13_boatAtRank_115 : decode cX13_boatAtRank 115 = .ok (.iaload, 1) := by decide +kernel
theorem dX13_boatAtRank_116 : decode cX13_boatAtRank 116 = .ok (.ireturn, 1) := by decide +kernel
theorem dX13_boatAtRank_117 : decode cX13_boatAtRank 117 = .ok (.iinc 2 1, 3) := by decide +kernel
theorem dX13_boatAtRank_120 : decode cX13_boatAtRank 120 = .ok (.goto (-113), 3) := by decide +kernel
theorem dX13_boatAtRank_123 : decode cX13_boatAtRank 123 = .ok (.aload_n 0, 1) := by decide +kernel
theorem dX13_boatAtRank_124 : decode cX13_boatAtRank 124 = .ok (.iconst 1, 1) := by decide +kernel
theorem dX13_boatAtRank_125 : decode cX13_boatAtRank 125 = .ok (.invokevirtual 88, 3) := by decide +kernel
theorem dX13_boatAtRank_128 : decode cX13_boatAtRank 128 = .ok (.ireturn, 1) := by decide +kernel
theorem dX13_move_0 : decode cX13_move 0 = .ok (.iload_n 0, 1) := by decide +kernel
theorem dX13_move_1 : decode cX13_move 1 = .ok (.bipush 85, 2) := by decide +kernel
theorem dX13_move_3 : decode cX13_move 3 = .ok (.if_icmp .ne 7, 3) := by decide +kernel
theorem dX13_move_6 : decode cX13_move 6 = .ok (.iconst 0, 1) := by decide +kernel
theorem dX13_move_7 : decode cX13_move 7 = .ok (.goto 34, 3) := by decide +kernel
theorem dX13_move_10 : decode cX13_move 10 = .ok (.iload_n 0, 1) := by decide +kernel
theorem dX13_move_11 : decode cX13_move 11 = .ok (.bipush 68, 2) := by decide +kernel
theorem dX13_move_13 : decode cX13_move 13 = .ok (.if_icmp .ne 7, 3) := by decide +kernel
theorem dX13_move_16 : decode cX13_move 16 = .ok (.iconst 1, 1) := by decide +kernel
theorem dX13_move_17 : decode cX13_move 17 = .ok (.goto 24, 3) := by decide +kernel
theorem dX13_move_20 : decode cX13_move 20 = .ok (.iload_n 0, 1) := by decide +kernel
theorem dX13_move_21 : decode cX13_move 21 = .ok (.bipush 76, 2) := by decide +kernel
theorem dX13_move_23 : decode cX13_move 23 = .ok (.if_icmp .ne 7, 3) := by decide +kernel
theorem dX13_move_26 : decode cX13_move 26 = .ok (.iconst 2, 1) := by decide +kernel
theorem dX13_move_27 : decode cX13_move 27 = .ok (.goto 14, 3) := by decide +kernel
theorem dX13_move_30 : decode cX13_move 30 = .ok (.iload_n 0, 1) := by decide +kernel
theorem dX13_move_31 : decode cX13_move 31 = .ok (.bipush 82, 2) := by decide +kernel
theorem dX13_move_33 : decode cX13_move 33 = .ok (.if_icmp .ne 7, 3) := by decide +kernel
theorem dX13_move_36 : decode cX13_move 36 = .ok (.iconst 3, 1) := by decide +kernel
theorem dX13_move_37 : decode cX13_move 37 = .ok (.goto 4, 3) := by decide +kernel
theorem dX13_move_40 : decode cX13_move 40 = .ok (.iconst (-1), 1) := by decide +kernel
theorem dX13_move_41 : decode cX13_move 41 = .ok (.ireturn, 1) := by decide +kernel
theorem dX13_letter_0 : decode cX13_letter 0 = .ok (.iload_n 0, 1) := by decide +kernel
theorem dX13_letter_1 : decode cX13_letter 1 = .ok (.ifCond .ne 8, 3) := by decide +kernel
theorem dX13_letter_4 : decode cX13_letter 4 = .ok (.bipush 85, 2) := by decide +kernel
theorem dX13_letter_6 : decode cX13_letter 6 = .ok (.goto 25, 3) := by decide +kernel
theorem dX13_letter_9 : decode cX13_letter 9 = .ok (.iload_n 0, 1) := by decide +kernel
theorem dX13_letter_10 : decode cX13_letter 10 = .ok (.iconst 1, 1) := by decide +kernel
theorem dX13_letter_11 : decode cX13_letter 11 = .ok (.if_icmp .ne 8, 3) := by decide +kernel
theorem dX13_letter_14 : decode cX13_letter 14 = .ok (.bipush 68, 2) := by decide +kernel
theorem dX13_letter_16 : decode cX13_letter 16 = .ok (.goto 15, 3) := by decide +kernel
theorem dX13_letter_19 : decode cX13_letter 19 = .ok (.iload_n 0, 1) := by decide +kernel
theorem dX13_letter_20 : decode cX13_letter 20 = .ok (.iconst 2, 1) := by decide +kernel
theorem dX13_letter_21 : decode cX13_letter 21 = .ok (.if_icmp .ne 8, 3) := by decide +kernel
theorem dX13_letter_24 : decode cX13_letter 24 = .ok (.bipush 76, 2) := by decide +kernel
theorem dX13_letter_26 : decode cX13_letter 26 = .ok (.goto 5, 3) := by decide +kernel
theorem dX13_letter_29 : decode cX13_letter 29 = .ok (.bipush 82, 2) := by decide +kernel
theorem dX13_letter_31 : decode cX13_letter 31 = .ok (.ireturn, 1) := by decide +kernel
theorem dX13_appends_0 : decode cX13_appends 0 = .ok (.iload_n 1, 1) := by decide +kernel
theorem dX13_appends_1 : decode cX13_appends 1 = .ok (.invokestatic 138, 3) := by decide +kernel
theorem dX13_appends_4 : decode cX13_appends 4 = .ok (.ifCond .ne 9, 3) := by decide +kernel
theorem dX13_appends_7 : decode cX13_appends 7 = .ok (.aload_n 0, 1) := by decide +kernel
theorem dX13_appends_8 : decode cX13_appends 8 = .ok (.iconst 1, 1) := by decide +kernel
theorem dX13_appends_9 : decode cX13_appends 9 = .ok (.invokevirtual 88, 3) := by decide +kernel
theorem dX13_appends_12 : decode cX13_appends 12 = .ok (.ireturn, 1) := by decide +kernel
theorem dX13_appends_13 : decode cX13_appends 13 = .ok (.iload_n 2, 1) := by decide +kernel
theorem dX13_appends_14 : decode cX13_appends 14 = .ok (.ifCond .ge 9, 3) := by decide +kernel
theorem dX13_appends_17 : decode cX13_appends 17 = .ok (.aload_n 0, 1) := by decide +kernel
theorem dX13_appends_18 : decode cX13_appends 18 = .ok (.iconst 2, 1) := by decide +kernel
theorem dX13_appends_19 : decode cX13_appends 19 = .ok (.invokevirtual 88, 3) := by decide +kernel
theorem dX13_appends_22 : decode cX13_appends 22 = .ok (.ireturn, 1) := by decide +kernel
theorem dX13_appends_23 : decode cX13_appends 23 = .ok (.aload_n 0, 1) := by decide +kernel
theorem dX13_appends_24 : decode cX13_appends 24 = .ok (.getfield 16, 3) := by decide +kernel
theorem dX13_appends_27 : decode cX13_appends 27 = .ok (.bipush 104, 2) := by decide +kernel
theorem dX13_appends_29 : decode cX13_appends 29 = .ok (.iload_n 1, 1) := by decide +kernel
theorem dX13_appends_30 : decode cX13_appends 30 = .ok (.iadd, 1) := by decide +kernel
theorem dX13_appends_31 : decode cX13_appends 31 = .ok (.iaload, 1) := by decide +kernel
theorem dX13_appends_32 : decode cX13_appends 32 = .ok (.istore_n 3, 1) := by decide +kernel
theorem dX13_appends_33 : decode cX13_appends 33 = .ok (.iload_n 3, 1) := by decide +kernel
theorem dX13_appends_34 : decode cX13_appends 34 = .ok (.bipush 20, 2) := by decide +kernel
theorem dX13_appends_36 : decode cX13_appends 36 = .ok (.if_icmp .ne 9, 3) := by decide +kernel
theorem dX13_appends_39 : decode cX13_appends 39 = .ok (.aload_n 0, 1) := by decide +kernel
theorem dX13_appends_40 : decode cX13_appends 40 = .ok (.iconst 3, 1) := by decide +kernel
theorem dX13_appends_41 : decode cX13_appends 41 = .ok (.invokevirtual 88, 3) := by decide +kernel
theorem dX13_appends_44 : decode cX13_appends 44 = .ok (.ireturn, 1) := by decide +kernel
theorem dX13_appends_45 : decode cX13_appends 45 = .ok (.aload_n 0, 1) := by decide +kernel
theorem dX13_appends_46 : decode cX13_appends 46 = .ok (.getfield 16, 3) := by decide +kernel
theorem dX13_appends_49 : decode cX13_appends 49 = .ok (.iload_n 1, 1) := by decide +kernel
theorem dX13_appends_50 : decode cX13_appends 50 = .ok (.iload_n 3, 1) := by decide +kernel
theorem dX13_appends_51 : decode cX13_appends 51 = .ok (.invokestatic 141, 3) := by decide +kernel
theorem dX13_appends_54 : decode cX13_appends 54 = .ok (.iload_n 2, 1) := by decide +kernel
theorem dX13_appends_55 : decode cX13_appends 55 = .ok (.iastore, 1) := by decide +kernel
theorem dX13_appends_56 : decode cX13_appends 56 = .ok (.aload_n 0, 1) := by decide +kernel
theorem dX13_appends_57 : decode cX13_appends 57 = .ok (.getfield 16, 3) := by decide +kernel
theorem dX13_appends_60 : decode cX13_appends 60 = .ok (.bipush 104, 2) := by decide +kernel
theorem dX13_appends_62 : decode cX13_appends 62 = .ok (.iload_n 1, 1) := by decide +kernel
theorem dX13_appends_63 : decode cX13_appends 63 = .ok (.iadd, 1) := by decide +kernel
theorem dX13_appends_64 : decode cX13_appends 64 = .ok (.dup2, 1) := by decide +kernel
theorem dX13_appends_65 : decode cX13_appends 65 = .ok (.iaload, 1) := by decide +kernel
theorem dX13_appends_66 : decode cX13_appends 66 = .ok (.iconst 1, 1) := by decide +kernel
theorem dX13_appends_67 : decode cX13_appends 67 = .ok (.iadd, 1) := by decide +kernel
theorem dX13_appends_68 : decode cX13_appends 68 = .ok (.iastore, 1) := by decide +kernel
theorem dX13_appends_69 : decode cX13_appends 69 = .ok (.aload_n 0, 1) := by decide +kernel
theorem dX13_appends_70 : decode cX13_appends 70 = .ok (.getfield 16, 3) := by decide +kernel
theorem dX13_appends_73 : decode cX13_appends 73 = .ok (.bipush 104, 2) := by decide +kernel
theorem dX13_appends_75 : decode cX13_appends 75 = .ok (.iload_n 1, 1) := by decide +kernel
theorem dX13_appends_76 : decode cX13_appends 76 = .ok (.iadd, 1) := by decide +kernel
theorem dX13_appends_77 : decode cX13_appends 77 = .ok (.iaload, 1) := by decide +kernel
theorem dX13_appends_78 : decode cX13_appends 78 = .ok (.ireturn, 1) := by decide +kernel
theorem dX13_addMove_0 : decode cX13_addMove 0 = .ok (.aload_n 0, 1) := by decide +kernel
theorem dX13_addMove_1 : decode cX13_addMove 1 = .ok (.invokevirtual 94, 3) := by decide +kernel
theorem dX13_addMove_4 : decode cX13_addMove 4 = .ok (.aload_n 0, 1) := by decide +kernel
theorem dX13_addMove_5 : decode cX13_addMove 5 = .ok (.aload_n 0, 1) := by decide +kernel
theorem dX13_addMove_6 : decode cX13_addMove 6 = .ok (.iload_n 1, 1) := by decide +kernel
theorem dX13_addMove_7 : decode cX13_addMove 7 = .ok (.iload_n 2, 1) := by decide +kernel
theorem dX13_addMove_8 : decode cX13_addMove 8 = .ok (.invokestatic 144, 3) := by decide +kernel
theorem dX13_addMove_11 : decode cX13_addMove 11 = .ok (.invokevirtual 147, 3) := by decide +kernel
theorem dX13_addMove_14 : decode cX13_addMove 14 = .ok (.invokevirtual 100, 3) := by decide +kernel
theorem dX13_addMove_17 : decode cX13_addMove 17 = .ok (.ireturn, 1) := by decide +kernel
theorem dX13_empties_0 : decode cX13_empties 0 = .ok (.iload_n 1, 1) := by decide +kernel
theorem dX13_empties_1 : decode cX13_empties 1 = .ok (.invokestatic 138, 3) := by decide +kernel
theorem dX13_empties_4 : decode cX13_empties 4 = .ok (.ifCond .ne 9, 3) := by decide +kernel
theorem dX13_empties_7 : decode cX13_empties 7 = .ok (.aload_n 0, 1) := by decide +kernel
theorem dX13_empties_8 : decode cX13_empties 8 = .ok (.iconst 1, 1) := by decide +kernel
theorem dX13_empties_9 : decode cX13_empties 9 = .ok (.invokevirtual 88, 3) := by decide +kernel
theorem dX13_empties_12 : decode cX13_empties 12 = .ok (.ireturn, 1) := by decide +kernel
theorem dX13_empties_13 : decode cX13_empties 13 = .ok (.aload_n 0, 1) := by decide +kernel
theorem dX13_empties_14 : decode cX13_empties 14 = .ok (.getfield 16, 3) := by decide +kernel
theorem dX13_empties_17 : decode cX13_empties 17 = .ok (.bipush 104, 2) := by decide +kernel
theorem dX13_empties_19 : decode cX13_empties 19 = .ok (.iload_n 1, 1) := by decide +kernel
theorem dX13_empties_20 : decode cX13_empties 20 = .ok (.iadd, 1) := by decide +kernel
theorem dX13_empties_21 : decode cX13_empties 21 = .ok (.iaload, 1) := by decide +kernel
theorem dX13_empties_22 : decode cX13_empties 22 = .ok (.istore_n 2, 1) := by decide +kernel
theorem dX13_empties_23 : decode cX13_empties 23 = .ok (.iconst 0, 1) := by decide +kernel
theorem dX13_empties_24 : decode cX13_empties 24 = .ok (.istore_n 3, 1) := by decide +kernel
theorem dX13_empties_25 : decode cX13_empties 25 = .ok (.iload_n 3, 1) := by decide +kernel
theorem dX13_empties_26 : decode cX13_empties 26 = .ok (.bipush 20, 2) := by decide +kernel
theorem dX13_empties_28 : decode cX13_empties 28 = .ok (.if_icmp .ge 20, 3) := by decide +kernel
theorem dX13_empties_31 : decode cX13_empties 31 = .ok (.aload_n 0, 1) := by decide +kernel
theorem dX13_empties_32 : decode cX13_empties 32 = .ok (.getfield 16, 3) := by decide +kernel
theorem dX13_empties_35 : decode cX13_empties 35 = .ok (.iload_n 1, 1) := by decide +kernel
theorem dX13_empties_36 : decode cX13_empties 36 = .ok (.iload_n 3, 1) := by decide +kernel
theorem dX13_empties_37 : decode cX13_empties 37 = .ok (.invokestatic 141, 3) := by decide +kernel
theorem dX13_empties_40 : decode cX13_empties 40 = .ok (.iconst 0, 1) := by decide +kernel
theorem dX13_empties_41 : decode cX13_empties 41 = .ok (.iastore, 1) := by decide +kernel
theorem dX13_empties_42 : decode cX13_empties 42 = .ok (.iinc 3 1, 3) := by decide +kernel
theorem dX13_empties_45 : decode cX13_empties 45 = .ok (.goto (-20), 3) := by decide +kernel
theorem dX13_empties_48 : decode cX13_empties 48 = .ok (.aload_n 0, 1) := by decide +kernel
theorem dX13_empties_49 : decode cX13_empties 49 = .ok (.getfield 16, 3) := by decide +kernel
theorem dX13_empties_52 : decode cX13_empties 52 = .ok (.bipush 104, 2) := by decide +kernel
theorem dX13_empties_54 : decode cX13_empties 54 = .ok (.iload_n 1, 1) := by decide +kernel
theorem dX13_empties_55 : decode cX13_empties 55 = .ok (.iadd, 1) := by decide +kernel
theorem dX13_empties_56 : decode cX13_empties 56 = .ok (.iconst 0, 1) := by decide +kernel
theorem dX13_empties_57 : decode cX13_empties 57 = .ok (.iastore, 1) := by decide +kernel
theorem dX13_empties_58 : decode cX13_empties 58 = .ok (.iload_n 2, 1) := by decide +kernel
theorem dX13_empties_59 : decode cX13_empties 59 = .ok (.ireturn, 1) := by decide +kernel
theorem dX13_clearPlan_0 : decode cX13_clearPlan 0 = .ok (.aload_n 0, 1) := by decide +kernel
theorem dX13_clearPlan_1 : decode cX13_clearPlan 1 = .ok (.invokevirtual 94, 3) := by decide +kernel
theorem dX13_clearPlan_4 : decode cX13_clearPlan 4 = .ok (.aload_n 0, 1) := by decide +kernel
theorem dX13_clearPlan_5 : decode cX13_clearPlan 5 = .ok (.aload_n 0, 1) := by decide +kernel
theorem dX13_clearPlan_6 : decode cX13_clearPlan 6 = .ok (.iload_n 1, 1) := by decide +kernel
theorem dX13_clearPlan_7 : decode cX13_clearPlan 7 = .ok (.invokevirtual 150, 3) := by decide +kernel
theorem dX13_clearPlan_10 : decode cX13_clearPlan 10 = .ok (.invokevirtual 100, 3) := by decide +kernel
theorem dX13_clearPlan_13 : decode cX13_clearPlan 13 = .ok (.ireturn, 1) := by decide +kernel
theorem dX13_becomes_0 : decode cX13_becomes 0 = .ok (.iconst 0, 1) := by decide +kernel
theorem dX13_becomes_1 : decode cX13_becomes 1 = .ok (.istore_n 3, 1) := by decide +kernel
theorem dX13_becomes_2 : decode cX13_becomes 2 = .ok (.iload_n 3, 1) := by decide +kernel
theorem dX13_becomes_3 : decode cX13_becomes 3 = .ok (.bipush 20, 2) := by decide +kernel
theorem dX13_becomes_5 : decode cX13_becomes 5 = .ok (.if_icmp .ge 34, 3) := by decide +kernel
theorem dX13_becomes_8 : decode cX13_becomes 8 = .ok (.aload_n 0, 1) := by decide +kernel
theorem dX13_becomes_9 : decode cX13_becomes 9 = .ok (.getfield 16, 3) := by decide +kernel
theorem dX13_becomes_12 : decode cX13_becomes 12 = .ok (.iload_n 1, 1) := by decide +kernel
theorem dX13_becomes_13 : decode cX13_becomes 13 = .ok (.iload_n 3, 1) := by decide +kernel
theorem dX13_becomes_14 : decode cX13_becomes 14 = .ok (.invokestatic 141, 3) := by decide +kernel
theorem dX13_becomes_17 : decode cX13_becomes 17 = .ok (.iload_n 3, 1) := by decide +kernel
theorem dX13_becomes_18 : decode cX13_becomes 18 = .ok (.iload_n 2, 1) := by decide +kernel
theorem dX13_becomes_19 : decode cX13_becomes 19 = .ok (.if_icmp .ge 12, 3) := by decide +kernel
theorem dX13_becomes_22 : decode cX13_becomes 22 = .ok (.aload_n 0, 1) := by decide +kernel
theorem dX13_becomes_23 : decode cX13_becomes 23 = .ok (.getfield 32, 3) := by decide +kernel
theorem dX13_becomes_26 : decode cX13_becomes 26 = .ok (.iload_n 3, 1) := by decide +kernel
theorem dX13_becomes_27 : decode cX13_becomes 27 = .ok (.iaload, 1) := by decide +kernel
theorem dX13_becomes_28 : decode cX13_becomes 28 = .ok (.goto 4, 3) := by decide +kernel
theorem dX13_becomes_31 : decode cX13_becomes 31 = .ok (.iconst 0, 1) := by decide +kernel
theorem dX13_becomes_32 : decode cX13_becomes 32 = .ok (.iastore, 1) := by decide +kernel
theorem dX13_becomes_33 : decode cX13_becomes 33 = .ok (.iinc 3 1, 3) := by decide +kernel
theorem dX13_becomes_36 : decode cX13_becomes 36 = .ok (.goto (-34), 3) := by decide +kernel
theorem dX13_becomes_39 : decode cX13_becomes 39 = .ok (.aload_n 0, 1) := by decide +kernel
theorem dX13_becomes_40 : decode cX13_becomes 40 = .ok (.getfield 16, 3) := by decide +kernel
theorem dX13_becomes_43 : decode cX13_becomes 43 = .ok (.bipush 104, 2) := by decide +kernel
theorem dX13_becomes_45 : decode cX13_becomes 45 = .ok (.iload_n 1, 1) := by decide +kernel
theorem dX13_becomes_46 : decode cX13_becomes 46 = .ok (.iadd, 1) := by decide +kernel
theorem dX13_becomes_47 : decode cX13_becomes 47 = .ok (.iload_n 2, 1) := by decide +kernel
theorem dX13_becomes_48 : decode cX13_becomes 48 = .ok (.iastore, 1) := by decide +kernel
theorem dX13_becomes_49 : decode cX13_becomes 49 = .ok (.iload_n 2, 1) := by decide +kernel
theorem dX13_becomes_50 : decode cX13_becomes 50 = .ok (.ireturn, 1) := by decide +kernel
theorem dX13_mirrored_0 : decode cX13_mirrored 0 = .ok (.iload_n 0, 1) := by decide +kernel
theorem dX13_mirrored_1 : decode cX13_mirrored 1 = .ok (.iconst 1, 1) := by decide +kernel
theorem dX13_mirrored_2 : decode cX13_mirrored 2 = .ok (.if_icmp .le 9, 3) := by decide +kernel
theorem dX13_mirrored_5 : decode cX13_mirrored 5 = .ok (.iconst 5, 1) := by decide +kernel
theorem dX13_mirrored_6 : decode cX13_mirrored 6 = .ok (.iload_n 0, 1) := by decide +kernel
theorem dX13_mirrored_7 : decode cX13_mirrored 7 = .ok (.isub, 1) := by decide +kernel
theorem dX13_mirrored_8 : decode cX13_mirrored 8 = .ok (.goto 4, 3) := by decide +kernel
theorem dX13_mirrored_11 : decode cX13_mirrored 11 = .ok (.iload_n 0, 1) := by decide +kernel
theorem dX13_mirrored_12 : decode cX13_mirrored 12 = .ok (.ireturn, 1) := by decide +kernel
theorem dX13_mirrors_0 : decode cX13_mirrors 0 = .ok (.iload_n 1, 1) := by decide +kernel
theorem dX13_mirrors_1 : decode cX13_mirrors 1 = .ok (.invokestatic 138, 3) := by decide +kernel
theorem dX13_mirrors_4 : decode cX13_mirrors 4 = .ok (.ifCond .eq 10, 3) := by decide +kernel
theorem dX13_mirrors_7 : decode cX13_mirrors 7 = .ok (.iload_n 2, 1) := by decide +kernel
theorem dX13_mirrors_8 : decode cX13_mirrors 8 = .ok (.invokestatic 138, 3) := by decide +kernel
theorem dX13_mirrors_11 : decode cX13_mirrors 11 = .ok (.ifCond .ne 9, 3) := by decide +kernel
theorem dX13_mirrors_14 : decode cX13_mirrors 14 = .ok (.aload_n 0, 1) := by decide +kernel
theorem dX13_mirrors_15 : decode cX13_mirrors 15 = .ok (.iconst 1, 1) := by decide +kernel
theorem dX13_mirrors_16 : decode cX13_mirrors 16 = .ok (.invokevirtual 88, 3) := by decide +kernel
theorem dX13_mirrors_19 : decode cX13_mirrors 19 = .ok (.ireturn, 1) := by decide +kernel
theorem dX13_mirrors_20 : decode cX13_mirrors 20 = .ok (.aload_n 0, 1) := by decide +kernel
theorem dX13_mirrors_21 : decode cX13_mirrors 21 = .ok (.getfield 16, 3) := by decide +kernel
theorem dX13_mirrors_24 : decode cX13_mirrors 24 = .ok (.bipush 104, 2) := by decide +kernel
theorem dX13_mirrors_26 : decode cX13_mirrors 26 = .ok (.iload_n 1, 1) := by decide +kernel
theorem dX13_mirrors_27 : decode cX13_mirrors 27 = .ok (.iadd, 1) := by decide +kernel
theorem dX13_mirrors_28 : decode cX13_mirrors 28 = .ok (.iaload, 1) := by decide +kernel
theorem dX13_mirrors_29 : decode cX13_mirrors 29 = .ok (.istore_n 3, 1) := by decide +kernel
theorem dX13_mirrors_30 : decode cX13_mirrors 30 = .ok (.iconst 0, 1) := by decide +kernel
theorem dX13_mirrors_31 : decode cX13_mirrors 31 = .ok (.istore 4, 2) := by decide +kernel
theorem dX13_mirrors_33 : decode cX13_mirrors 33 = .ok (.iload 4, 2) := by decide +kernel
theorem dX13_mirrors_35 : decode cX13_mirrors 35 = .ok (.iload_n 3, 1) := by decide +kernel
theorem dX13_mirrors_36 : decode cX13_mirrors 36 = .ok (.if_icmp .ge 30, 3) := by decide +kernel
theorem dX13_mirrors_39 : decode cX13_mirrors 39 = .ok (.aload_n 0, 1) := by decide +kernel
theorem dX13_mirrors_40 : decode cX13_mirrors 40 = .ok (.getfield 32, 3) := by decide +kernel
theorem dX13_mirrors_43 : decode cX13_mirrors 43 = .ok (.iload 4, 2) := by decide +kernel
theorem dX13_mirrors_45 : decode cX13_mirrors 45 = .ok (.aload_n 0, 1) := by decide +kernel
theorem dX13_mirrors_46 : decode cX13_mirrors 46 = .ok (.getfield 16, 3) := by decide +kernel
theorem dX13_mirrors_49 : decode cX13_mirrors 49 = .ok (.iload_n 1, 1) := by decide +kernel
theorem dX13_mirrors_50 : decode cX13_mirrors 50 = .ok (.iload 4, 2) := by decide +kernel
theorem dX13_mirrors_52 : decode cX13_mirrors 52 = .ok (.invokestatic 141, 3) := by decide +kernel
theorem dX13_mirrors_55 : decode cX13_mirrors 55 = .ok (.iaload, 1) := by decide +kernel
theorem dX13_mirrors_56 : decode cX13_mirrors 56 = .ok (.invokestatic 153, 3) := by decide +kernel
theorem dX13_mirrors_59 : decode cX13_mirrors 59 = .ok (.iastore, 1) := by decide +kernel
theorem dX13_mirrors_60 : decode cX13_mirrors 60 = .ok (.iinc 4 1, 3) := by decide +kernel
theorem dX13_mirrors_63 : decode cX13_mirrors 63 = .ok (.goto (-30), 3) := by decide +kernel
theorem dX13_mirrors_66 : decode cX13_mirrors 66 = .ok (.aload_n 0, 1) := by decide +kernel
theorem dX13_mirrors_67 : decode cX13_mirrors 67 = .ok (.iload_n 2, 1) := by decide +kernel
theorem dX13_mirrors_68 : decode cX13_mirrors 68 = .ok (.iload_n 3, 1) := by decide +kernel
theorem dX13_mirrors_69 : decode cX13_mirrors 69 = .ok (.invokevirtual 156, 3) := by decide +kernel
theorem dX13_mirrors_72 : decode cX13_mirrors 72 = .ok (.ireturn, 1) := by decide +kernel
theorem dX13_mirror_0 : decode cX13_mirror 0 = .ok (.aload_n 0, 1) := by decide +kernel
theorem dX13_mirror_1 : decode cX13_mirror 1 = .ok (.invokevirtual 94, 3) := by decide +kernel
theorem dX13_mirror_4 : decode cX13_mirror 4 = .ok (.aload_n 0, 1) := by decide +kernel
theorem dX13_mirror_5 : decode cX13_mirror 5 = .ok (.aload_n 0, 1) := by decide +kernel
theorem dX13_mirror_6 : decode cX13_mirror 6 = .ok (.iload_n 1, 1) := by decide +kernel
theorem dX13_mirror_7 : decode cX13_mirror 7 = .ok (.iload_n 2, 1) := by decide +kernel
theorem dX13_mirror_8 : decode cX13_mirror 8 = .ok (.invokevirtual 159, 3) := by decide +kernel
theorem dX13_mirror_11 : decode cX13_mirror 11 = .ok (.invokevirtual 100, 3) := by decide +kernel
theorem dX13_mirror_14 : decode cX13_mirror 14 = .ok (.ireturn, 1) := by decide +kernel
theorem dX13_turns_0 : decode cX13_turns 0 = .ok (.iload_n 1, 1) := by decide +kernel
theorem dX13_turns_1 : decode cX13_turns 1 = .ok (.invokestatic 138, 3) := by decide +kernel
theorem dX13_turns_4 : decode cX13_turns 4 = .ok (.ifCond .eq 10, 3) := by decide +kernel
theorem dX13_turns_7 : decode cX13_turns 7 = .ok (.iload_n 2, 1) := by decide +kernel
theorem dX13_turns_8 : decode cX13_turns 8 = .ok (.invokestatic 138, 3) := by decide +kernel
theorem dX13_turns_11 : decode cX13_turns 11 = .ok (.ifCond .ne 9, 3) := by decide +kernel
theorem dX13_turns_14 : decode cX13_turns 14 = .ok (.aload_n 0, 1) := by decide +kernel
theorem dX13_turns_15 : decode cX13_turns 15 = .ok (.iconst 1, 1) := by decide +kernel
theorem dX13_turns_16 : decode cX13_turns 16 = .ok (.invokevirtual 88, 3) := by decide +kernel
theorem dX13_turns_19 : decode cX13_turns 19 = .ok (.ireturn, 1) := by decide +kernel
theorem dX13_turns_20 : decode cX13_turns 20 = .ok (.aload_n 0, 1) := by decide +kernel
theorem dX13_turns_21 : decode cX13_turns 21 = .ok (.getfield 16, 3) := by decide +kernel
theorem dX13_turns_24 : decode cX13_turns 24 = .ok (.bipush 104, 2) := by decide +kernel
theorem dX13_turns_26 : decode cX13_turns 26 = .ok (.iload_n 1, 1) := by decide +kernel
theorem dX13_turns_27 : decode cX13_turns 27 = .ok (.iadd, 1) := by decide +kernel
theorem dX13_turns_28 : decode cX13_turns 28 = .ok (.iaload, 1) := by decide +kernel
theorem dX13_turns_29 : decode cX13_turns 29 = .ok (.istore_n 3, 1) := by decide +kernel
theorem dX13_turns_30 : decode cX13_turns 30 = .ok (.iconst 0, 1) := by decide +kernel
theorem dX13_turns_31 : decode cX13_turns 31 = .ok (.istore 4, 2) := by decide +kernel
theorem dX13_turns_33 : decode cX13_turns 33 = .ok (.iload 4, 2) := by decide +kernel
theorem dX13_turns_35 : decode cX13_turns 35 = .ok (.iload_n 3, 1) := by decide +kernel
theorem dX13_turns_36 : decode cX13_turns 36 = .ok (.if_icmp .ge 33, 3) := by decide +kernel
theorem dX13_turns_39 : decode cX13_turns 39 = .ok (.aload_n 0, 1) := by decide +kernel
theorem dX13_turns_40 : decode cX13_turns 40 = .ok (.getfield 32, 3) := by decide +kernel
theorem dX13_turns_43 : decode cX13_turns 43 = .ok (.iload 4, 2) := by decide +kernel
theorem dX13_turns_45 : decode cX13_turns 45 = .ok (.aload_n 0, 1) := by decide +kernel
theorem dX13_turns_46 : decode cX13_turns 46 = .ok (.getfield 16, 3) := by decide +kernel
theorem dX13_turns_49 : decode cX13_turns 49 = .ok (.iload_n 1, 1) := by decide +kernel
theorem dX13_turns_50 : decode cX13_turns 50 = .ok (.iload_n 3, 1) := by decide +kernel
theorem dX13_turns_51 : decode cX13_turns 51 = .ok (.iconst 1, 1) := by decide +kernel
theorem dX13_turns_52 : decode cX13_turns 52 = .ok (.isub, 1) := by decide +kernel
theorem dX13_turns_53 : decode cX13_turns 53 = .ok (.iload 4, 2) := by decide +kernel
theorem dX13_turns_55 : decode cX13_turns 55 = .ok (.isub, 1) := by decide +kernel
theorem dX13_turns_56 : decode cX13_turns 56 = .ok (.invokestatic 141, 3) := by decide +kernel
theorem dX13_turns_59 : decode cX13_turns 59 = .ok (.iaload, 1) := by decide +kernel
theorem dX13_turns_60 : decode cX13_turns 60 = .ok (.iconst 1, 1) := by decide +kernel
theorem dX13_turns_61 : decode cX13_turns 61 = .ok (.ixor, 1) := by decide +kernel
theorem dX13_turns_62 : decode cX13_turns 62 = .ok (.iastore, 1) := by decide +kernel
theorem dX13_turns_63 : decode cX13_turns 63 = .ok (.iinc 4 1, 3) := by decide +kernel
theorem dX13_turns_66 : decode cX13_turns 66 = .ok (.goto (-33), 3) := by decide +kernel
theorem dX13_turns_69 : decode cX13_turns 69 = .ok (.aload_n 0, 1) := by decide +kernel
theorem dX13_turns_70 : decode cX13_turns 70 = .ok (.iload_n 2, 1) := by decide +kernel
theorem dX13_turns_71 : decode cX13_turns 71 = .ok (.iload_n 3, 1) := by decide +kernel
theorem dX13_turns_72 : decode cX13_turns 72 = .ok (.invokevirtual 156, 3) := by decide +kernel
theorem dX13_turns_75 : decode cX13_turns 75 = .ok (.ireturn, 1) := by decide +kernel
theorem dX13_reverse_0 : decode cX13_reverse 0 = .ok (.aload_n 0, 1) := by decide +kernel
theorem dX13_reverse_1 : decode cX13_reverse 1 = .ok (.invokevirtual 94, 3) := by decide +kernel
theorem dX13_reverse_4 : decode cX13_reverse 4 = .ok (.aload_n 0, 1) := by decide +kernel
theorem dX13_reverse_5 : decode cX13_reverse 5 = .ok (.aload_n 0, 1) := by decide +kernel
theorem dX13_reverse_6 : decode cX13_reverse 6 = .ok (.iload_n 1, 1) := by decide +kernel
theorem dX13_reverse_7 : decode cX13_reverse 7 = .ok (.iload_n 2, 1) := by decide +kernel
theorem dX13_reverse_8 : decode cX13_reverse 8 = .ok (.invokevirtual 162, 3) := by decide +kernel
theorem dX13_reverse_11 : decode cX13_reverse 11 = .ok (.invokevirtual 100, 3) := by decide +kernel
theorem dX13_reverse_14 : decode cX13_reverse 14 = .ok (.ireturn, 1) := by decide +kernel
theorem dX13_left_0 : decode cX13_left 0 = .ok (.iconst 0, 1) := by decide +kernel
theorem dX13_left_1 : decode cX13_left 1 = .ok (.istore_n 2, 1) := by decide +kernel
theorem dX13_left_2 : decode cX13_left 2 = .ok (.iconst 0, 1) := by decide +kernel
theorem dX13_left_3 : decode cX13_left 3 = .ok (.istore_n 3, 1) := by decide +kernel
theorem dX13_left_4 : decode cX13_left 4 = .ok (.iload_n 3, 1) := by decide +kernel
theorem dX13_left_5 : decode cX13_left 5 = .ok (.aload_n 0, 1) := by decide +kernel
theorem dX13_left_6 : decode cX13_left 6 = .ok (.getfield 16, 3) := by decide +kernel
theorem dX13_left_9 : decode cX13_left 9 = .ok (.bipush 104, 2) := by decide +kernel
theorem dX13_left_11 : decode cX13_left 11 = .ok (.iload_n 1, 1) := by decide +kernel
theorem dX13_left_12 : decode cX13_left 12 = .ok (.iadd, 1) := by decide +kernel
theorem dX13_left_13 : decode cX13_left 13 = .ok (.iaload, 1) := by decide +kernel
theorem dX13_left_14 : decode cX13_left 14 = .ok (.if_icmp .ge 57, 3) := by decide +kernel
theorem dX13_left_17 : decode cX13_left 17 = .ok (.aload_n 0, 1) := by decide +kernel
theorem dX13_left_18 : decode cX13_left 18 = .ok (.getfield 16, 3) := by decide +kernel
theorem dX13_left_21 : decode cX13_left 21 = .ok (.iload_n 1, 1) := by decide +kernel
theorem dX13_left_22 : decode cX13_left 22 = .ok (.iload_n 3, 1) := by decide +kernel
theorem dX13_left_23 : decode cX13_left 23 = .ok (.invokestatic 141, 3) := by decide +kernel
theorem dX13_left_26 : decode cX13_left 26 = .ok (.iaload, 1) := by decide +kernel
theorem dX13_left_27 : decode cX13_left 27 = .ok (.istore 4, 2) := by decide +kernel
theorem dX13_left_29 : decode cX13_left 29 = .ok (.iload_n 2, 1) := by decide +kernel
theorem dX13_left_30 : decode cX13_left 30 = .ok (.ifCond .le 24, 3) := by decide +kernel
theorem dX13_left_33 : decode cX13_left 33 = .ok (.aload_n 0, 1) := by decide +kernel
theorem dX13_left_34 : decode cX13_left 34 = .ok (.getfield 32, 3) := by decide +kernel
theorem dX13_left_37 : decode cX13_left 37 = .ok (.iload_n 2, 1) := by decide +kernel
theorem dX13_left_38 : decode cX13_left 38 = .ok (.iconst 1, 1) := by decide +kernel
theorem dX13_left_39 : decode cX13_left 39 = .ok (.isub, 1) := by decide +kernel
theorem dX13_left_40 : decode cX13_left 40 = .ok (.iaload, 1) := by decide +kernel
theorem dX13_left_41 : decode cX13_left 41 = .ok (.iload 4, 2) := by decide +kernel
theorem dX13_left_43 : decode cX13_left 43 = .ok (.iconst 1, 1) := by decide +kernel
theorem dX13_left_44 : decode cX13_left 44 = .ok (.ixor, 1) := by decide +kernel
theorem dX13_left_45 : decode cX13_left 45 = .ok (.if_icmp .ne 9, 3) := by decide +kernel
theorem dX13_left_48 : decode cX13_left 48 = .ok (.iinc 2 (-1), 3) := by decide +kernel
theorem dX13_left_51 : decode cX13_left 51 = .ok (.goto 14, 3) := by decide +kernel
theorem dX13_left_54 : decode cX13_left 54 = .ok (.aload_n 0, 1) := by decide +kernel
theorem dX13_left_55 : decode cX13_left 55 = .ok (.getfield 32, 3) := by decide +kernel
theorem dX13_left_58 : decode cX13_left 58 = .ok (.iload_n 2, 1) := by decide +kernel
theorem dX13_left_59 : decode cX13_left 59 = .ok (.iload 4, 2) := by decide +kernel
theorem dX13_left_61 : decode cX13_left 61 = .ok (.iastore, 1) := by decide +kernel
theorem dX13_left_62 : decode cX13_left 62 = .ok (.iinc 2 1, 3) := by decide +kernel
theorem dX13_left_65 : decode cX13_left 65 = .ok (.iinc 3 1, 3) := by decide +kernel
theorem dX13_left_68 : decode cX13_left 68 = .ok (.goto (-64), 3) := by decide +kernel
theorem dX13_left_71 : decode cX13_left 71 = .ok (.iload_n 2, 1) := by decide +kernel
theorem dX13_left_72 : decode cX13_left 72 = .ok (.ireturn, 1) := by decide +kernel
theorem dX13_reduces_0 : decode cX13_reduces 0 = .ok (.iload_n 1, 1) := by decide +kernel
theorem dX13_reduces_1 : decode cX13_reduces 1 = .ok (.invokestatic 138, 3) := by decide +kernel
theorem dX13_reduces_4 : decode cX13_reduces 4 = .ok (.ifCond .eq 16, 3) := by decide +kernel
theorem dX13_reduces_7 : decode cX13_reduces 7 = .ok (.aload_n 0, 1) := by decide +kernel
theorem dX13_reduces_8 : decode cX13_reduces 8 = .ok (.iload_n 1, 1) := by decide +kernel
theorem dX13_reduces_9 : decode cX13_reduces 9 = .ok (.aload_n 0, 1) := by decide +kernel
theorem dX13_reduces_10 : decode cX13_reduces 10 = .ok (.iload_n 1, 1) := by decide +kernel
theorem dX13_reduces_11 : decode cX13_reduces 11 = .ok (.invokevirtual 165, 3) := by decide +kernel
theorem dX13_reduces_14 : decode cX13_reduces 14 = .ok (.invokevirtual 156, 3) := by decide +kernel
theorem dX13_reduces_17 : decode cX13_reduces 17 = .ok (.goto 8, 3) := by decide +kernel
theorem dX13_reduces_20 : decode cX13_reduces 20 = .ok (.aload_n 0, 1) := by decide +kernel
theorem dX13_reduces_21 : decode cX13_reduces 21 = .ok (.iconst 1, 1) := by decide +kernel
theorem dX13_reduces_22 : decode cX13_reduces 22 = .ok (.invokevirtual 88, 3) := by decide +kernel
theorem dX13_reduces_25 : decode cX13_reduces 25 = .ok (.ireturn, 1) := by decide +kernel
theorem dX13_reduce_0 : decode cX13_reduce 0 = .ok (.aload_n 0, 1) := by decide +kernel
theorem dX13_reduce_1 : decode cX13_reduce 1 = .ok (.invokevirtual 94, 3) := by decide +kernel
theorem dX13_reduce_4 : decode cX13_reduce 4 = .ok (.aload_n 0, 1) := by decide +kernel
theorem dX13_reduce_5 : decode cX13_reduce 5 = .ok (.aload_n 0, 1) := by decide +kernel
theorem dX13_reduce_6 : decode cX13_reduce 6 = .ok (.iload_n 1, 1) := by decide +kernel
theorem dX13_reduce_7 : decode cX13_reduce 7 = .ok (.invokevirtual 168, 3) := by decide +kernel
theorem dX13_reduce_10 : decode cX13_reduce 10 = .ok (.invokevirtual 100, 3) := by decide +kernel
theorem dX13_reduce_13 : decode cX13_reduce 13 = .ok (.ireturn, 1) := by decide +kernel
theorem dX13_reducedLength_0 : decode cX13_reducedLength 0 = .ok (.aload_n 0, 1) := by decide +kernel
theorem dX13_reducedLength_1 : decode cX13_reducedLength 1 = .ok (.iload_n 1, 1) := by decide +kernel
theorem dX13_reducedLength_2 : decode cX13_reducedLength 2 = .ok (.invokestatic 138, 3) := by decide +kernel
theorem dX13_reducedLength_5 : decode cX13_reducedLength 5 = .ok (.ifCond .eq 7, 3) := by decide +kernel
theorem dX13_reducedLength_8 : decode cX13_reducedLength 8 = .ok (.iconst 0, 1) := by decide +kernel
theorem dX13_reducedLength_9 : decode cX13_reducedLength 9 = .ok (.goto 4, 3) := by decide +kernel
theorem dX13_reducedLength_12 : decode cX13_reducedLength 12 = .ok (.iconst 1, 1) := by decide +kernel
theorem dX13_reducedLength_13 : decode cX13_reducedLength 13 = .ok (.putfield 53, 3) := by decide +kernel
theorem dX13_reducedLength_16 : decode cX13_reducedLength 16 = .ok (.aload_n 0, 1) := by decide +kernel
theorem dX13_reducedLength_17 : decode cX13_reducedLength 17 = .ok (.getfield 53, 3) := by decide +kernel
theorem dX13_reducedLength_20 : decode cX13_reducedLength 20 = .ok (.ifCond .ne 11, 3) := by decide +kernel
theorem dX13_reducedLength_23 : decode cX13_reducedLength 23 = .ok (.aload_n 0, 1) := by decide +kernel
theorem dX13_reducedLength_24 : decode cX13_reducedLength 24 = .ok (.iload_n 1, 1) := by decide +kernel
theorem dX13_reducedLength_25 : decode cX13_reducedLength 25 = .ok (.invokevirtual 165, 3) := by decide +kernel
theorem dX13_reducedLength_28 : decode cX13_reducedLength 28 = .ok (.goto 4, 3) := by decide +kernel
theorem dX13_reducedLength_31 : decode cX13_reducedLength 31 = .ok (.iconst 0, 1) := by decide +kernel
theorem dX13_reducedLength_32 : decode cX13_reducedLength 32 = .ok (.ireturn, 1) := by decide +kernel
theorem dX13_planLength_0 : decode cX13_planLength 0 = .ok (.aload_n 0, 1) := by decide +kernel
theorem dX13_planLength_1 : decode cX13_planLength 1 = .ok (.iload_n 1, 1) := by decide +kernel
theorem dX13_planLength_2 : decode cX13_planLength 2 = .ok (.invokestatic 138, 3) := by decide +kernel
theorem dX13_planLength_5 : decode cX13_planLength 5 = .ok (.ifCond .eq 7, 3) := by decide +kernel
theorem dX13_planLength_8 : decode cX13_planLength 8 = .ok (.iconst 0, 1) := by decide +kernel
theorem dX13_planLength_9 : decode cX13_planLength 9 = .ok (.goto 4, 3) := by decide +kernel
theorem dX13_planLength_12 : decode cX13_planLength 12 = .ok (.iconst 1, 1) := by decide +kernel
theorem dX13_planLength_13 : decode cX13_planLength 13 = .ok (.putfield 53, 3) := by decide +kernel
theorem dX13_planLength_16 : decode cX13_planLength 16 = .ok (.aload_n 0, 1) := by decide +kernel
theorem dX13_planLength_17 : decode cX13_planLength 17 = .ok (.getfield 53, 3) := by decide +kernel
theorem dX13_planLength_20 : decode cX13_planLength 20 = .ok (.ifCond .ne 15, 3) := by decide +kernel
theorem dX13_planLength_23 : decode cX13_planLength 23 = .ok (.aload_n 0, 1) := by decide +kernel
theorem dX13_planLength_24 : decode cX13_planLength 24 = .ok (.getfield 16, 3) := by decide +kernel
theorem dX13_planLength_27 : decode cX13_planLength 27 = .ok (.bipush 104, 2) := by decide +kernel
theorem dX13_planLength_29 : decode cX13_planLength 29 = .ok (.iload_n 1, 1) := by decide +kernel
theorem dX13_planLength_30 : decode cX13_planLength 30 = .ok (.iadd, 1) := by decide +kernel
theorem dX13_planLength_31 : decode cX13_planLength 31 = .ok (.iaload, 1) := by decide +kernel
theorem dX13_planLength_32 : decode cX13_planLength 32 = .ok (.goto 4, 3) := by decide +kernel
theorem dX13_planLength_35 : decode cX13_planLength 35 = .ok (.iconst 0, 1) := by decide +kernel
theorem dX13_planLength_36 : decode cX13_planLength 36 = .ok (.ireturn, 1) := by decide +kernel
theorem dX13_moveAt_0 : decode cX13_moveAt 0 = .ok (.aload_n 0, 1) := by decide +kernel
theorem dX13_moveAt_1 : decode cX13_moveAt 1 = .ok (.iload_n 1, 1) := by decide +kernel
theorem dX13_moveAt_2 : decode cX13_moveAt 2 = .ok (.invokestatic 138, 3) := by decide +kernel
theorem dX13_moveAt_5 : decode cX13_moveAt 5 = .ok (.ifCond .ne 7, 3) := by decide +kernel
theorem dX13_moveAt_8 : decode cX13_moveAt 8 = .ok (.iconst 1, 1) := by decide +kernel
theorem dX13_moveAt_9 : decode cX13_moveAt 9 = .ok (.goto 27, 3) := by decide +kernel
theorem dX13_moveAt_12 : decode cX13_moveAt 12 = .ok (.iload_n 2, 1) := by decide +kernel
theorem dX13_moveAt_13 : decode cX13_moveAt 13 = .ok (.iconst 0, 1) := by decide +kernel
theorem dX13_moveAt_14 : decode cX13_moveAt 14 = .ok (.aload_n 0, 1) := by decide +kernel
theorem dX13_moveAt_15 : decode cX13_moveAt 15 = .ok (.getfield 16, 3) := by decide +kernel
theorem dX13_moveAt_18 : decode cX13_moveAt 18 = .ok (.bipush 104, 2) := by decide +kernel
theorem dX13_moveAt_20 : decode cX13_moveAt 20 = .ok (.iload_n 1, 1) := by decide +kernel
theorem dX13_moveAt_21 : decode cX13_moveAt 21 = .ok (.iadd, 1) := by decide +kernel
theorem dX13_moveAt_22 : decode cX13_moveAt 22 = .ok (.iaload, 1) := by decide +kernel
theorem dX13_moveAt_23 : decode cX13_moveAt 23 = .ok (.iconst 1, 1) := by decide +kernel
theorem dX13_moveAt_24 : decode cX13_moveAt 24 = .ok (.isub, 1) := by decide +kernel
theorem dX13_moveAt_25 : decode cX13_moveAt 25 = .ok (.invokestatic 63, 3) := by decide +kernel
theorem dX13_moveAt_28 : decode cX13_moveAt 28 = .ok (.ifCond .eq 7, 3) := by decide +kernel
theorem dX13_moveAt_31 : decode cX13_moveAt 31 = .ok (.iconst 0, 1) := by decide +kernel
theorem dX13_moveAt_32 : decode cX13_moveAt 32 = .ok (.goto 4, 3) := by decide +kernel
theorem dX13_moveAt_35 : decode cX13_moveAt 35 = .ok (.iconst 2, 1) := by decide +kernel
theorem dX13_moveAt_36 : decode cX13_moveAt 36 = .ok (.putfield 53, 3) := by decide +kernel
theorem dX13_moveAt_39 : decode cX13_moveAt 39 = .ok (.aload_n 0, 1) := by decide +kernel
theorem dX13_moveAt_40 : decode cX13_moveAt 40 = .ok (.getfield 53, 3) := by decide +kernel
theorem dX13_moveAt_43 : decode cX13_moveAt 43 = .ok (.ifCond .ne 20, 3) := by decide +kernel
theorem dX13_moveAt_46 : decode cX13_moveAt 46 = .ok (.aload_n 0, 1) := by decide +kernel
theorem dX13_moveAt_47 : decode cX13_moveAt 47 = .ok (.getfield 16, 3) := by decide +kernel
theorem dX13_moveAt_50 : decode cX13_moveAt 50 = .ok (.iload_n 1, 1) := by decide +kernel
theorem dX13_moveAt_51 : decode cX13_moveAt 51 = .ok (.iload_n 2, 1) := by decide +kernel
theorem dX13_moveAt_52 : decode cX13_moveAt 52 = .ok (.invokestatic 141, 3) := by decide +kernel
theorem dX13_moveAt_55 : decode cX13_moveAt 55 = .ok (.iaload, 1) := by decide +kernel
theorem dX13_moveAt_56 : decode cX13_moveAt 56 = .ok (.invokestatic 171, 3) := by decide +kernel
theorem dX13_moveAt_59 : decode cX13_moveAt 59 = .ok (.i2c, 1) := by decide +kernel
theorem dX13_moveAt_60 : decode cX13_moveAt 60 = .ok (.goto 5, 3) := by decide +kernel
theorem dX13_moveAt_63 : decode cX13_moveAt 63 = .ok (.bipush 97, 2) := by decide +kernel
theorem dX13_moveAt_65 : decode cX13_moveAt 65 = .ok (.ireturn, 1) := by decide +kernel
theorem dX13_areMirrored_0 : decode cX13_areMirrored 0 = .ok (.aload_n 0, 1) := by decide +kernel
theorem dX13_areMirrored_1 : decode cX13_areMirrored 1 = .ok (.iload_n 1, 1) := by decide +kernel
theorem dX13_areMirrored_2 : decode cX13_areMirrored 2 = .ok (.invokestatic 138, 3) := by decide +kernel
theorem dX13_areMirrored_5 : decode cX13_areMirrored 5 = .ok (.ifCond .eq 14, 3) := by decide +kernel
theorem dX13_areMirrored_8 : decode cX13_areMirrored 8 = .ok (.iload_n 2, 1) := by decide +kernel
theorem dX13_areMirrored_9 : decode cX13_areMirrored 9 = .ok (.invokestatic 138, 3) := by decide +kernel
theorem dX13_areMirrored_12 : decode cX13_areMirrored 12 = .ok (.ifCond .eq 7, 3) := by decide +kernel
theorem dX13_areMirrored_15 : decode cX13_areMirrored 15 = .ok (.iconst 0, 1) := by decide +kernel
theorem dX13_areMirrored_16 : decode cX13_areMirrored 16 = .ok (.goto 4, 3) := by decide +kernel
theorem dX13_areMirrored_19 : decode cX13_areMirrored 19 = .ok (.iconst 1, 1) := by decide +kernel
theorem dX13_areMirrored_20 : decode cX13_areMirrored 20 = .ok (.putfield 53, 3) := by decide +kernel
theorem dX13_areMirrored_23 : decode cX13_areMirrored 23 = .ok (.aload_n 0, 1) := by decide +kernel
theorem dX13_areMirrored_24 : decode cX13_areMirrored 24 = .ok (.getfield 53, 3) := by decide +kernel
theorem dX13_areMirrored_27 : decode cX13_areMirrored 27 = .ok (.ifCond .ne 24, 3) := by decide +kernel
theorem dX13_areMirrored_30 : decode cX13_areMirrored 30 = .ok (.aload_n 0, 1) := by decide +kernel
theorem dX13_areMirrored_31 : decode cX13_areMirrored 31 = .ok (.getfield 16, 3) := by decide +kernel
theorem dX13_areMirrored_34 : decode cX13_areMirrored 34 = .ok (.bipush 104, 2) := by decide +kernel
theorem dX13_areMirrored_36 : decode cX13_areMirrored 36 = .ok (.iload_n 1, 1) := by decide +kernel
theorem dX13_areMirrored_37 : decode cX13_areMirrored 37 = .ok (.iadd, 1) := by decide +kernel
theorem dX13_areMirrored_38 : decode cX13_areMirrored 38 = .ok (.iaload, 1) := by decide +kernel
theorem dX13_areMirrored_39 : decode cX13_areMirrored 39 = .ok (.aload_n 0, 1) := by decide +kernel
theorem dX13_areMirrored_40 : decode cX13_areMirrored 40 = .ok (.getfield 16, 3) := by decide +kernel
theorem dX13_areMirrored_43 : decode cX13_areMirrored 43 = .ok (.bipush 104, 2) := by decide +kernel
theorem dX13_areMirrored_45 : decode cX13_areMirrored 45 = .ok (.iload_n 2, 1) := by decide +kernel
theorem dX13_areMirrored_46 : decode cX13_areMirrored 46 = .ok (.iadd, 1) := by decide +kernel
theorem dX13_areMirrored_47 : decode cX13_areMirrored 47 = .ok (.iaload, 1) := by decide +kernel
theorem dX13_areMirrored_48 : decode cX13_areMirrored 48 = .ok (.if_icmp .eq 5, 3) := by decide +kernel
theorem dX13_areMirrored_51 : decode cX13_areMirrored 51 = .ok (.iconst 0, 1) := by decide +kernel
theorem dX13_areMirrored_52 : decode cX13_areMirrored 52 = .ok (.ireturn, 1) := by decide +kernel
theorem dX13_areMirrored_53 : decode cX13_areMirrored 53 = .ok (.iconst 0, 1) := by decide +kernel
theorem dX13_areMirrored_54 : decode cX13_areMirrored 54 = .ok (.istore_n 3, 1) := by decide +kernel
theorem dX13_areMirrored_55 : decode cX13_areMirrored 55 = .ok (.iload_n 3, 1) := by decide +kernel
theorem dX13_areMirrored_56 : decode cX13_areMirrored 56 = .ok (.aload_n 0, 1) := by decide +kernel
theorem dX13_areMirrored_57 : decode cX13_areMirrored 57 = .ok (.getfield 16, 3) := by decide +kernel
theorem dX13_areMirrored_60 : decode cX13_areMirrored 60 = .ok (.bipush 104, 2) := by decide +kernel
theorem dX13_areMirrored_62 : decode cX13_areMirrored 62 = .ok (.iload_n 1, 1) := by decide +kernel
theorem dX13_areMirrored_63 : decode cX13_areMirrored 63 = .ok (.iadd, 1) := by decide +kernel
theorem dX13_areMirrored_64 : decode cX13_areMirrored 64 = .ok (.iaload, 1) := by decide +kernel
theorem dX13_areMirrored_65 : decode cX13_areMirrored 65 = .ok (.if_icmp .ge 37, 3) := by decide +kernel
theorem dX13_areMirrored_68 : decode cX13_areMirrored 68 = .ok (.aload_n 0, 1) := by decide +kernel
theorem dX13_areMirrored_69 : decode cX13_areMirrored 69 = .ok (.getfield 16, 3) := by decide +kernel
theorem dX13_areMirrored_72 : decode cX13_areMirrored 72 = .ok (.iload_n 1, 1) := by decide +kernel
theorem dX13_areMirrored_73 : decode cX13_areMirrored 73 = .ok (.iload_n 3, 1) := by decide +kernel
theorem dX13_areMirrored_74 : decode cX13_areMirrored 74 = .ok (.invokestatic 141, 3) := by decide +kernel
theorem dX13_areMirrored_77 : decode cX13_areMirrored 77 = .ok (.iaload, 1) := by decide +kernel
theorem dX13_areMirrored_78 : decode cX13_areMirrored 78 = .ok (.aload_n 0, 1) := by decide +kernel
theorem dX13_areMirrored_79 : decode cX13_areMirrored 79 = .ok (.getfield 16, 3) := by decide +kernel
theorem dX13_areMirrored_82 : decode cX13_areMirrored 82 = .ok (.iload_n 2, 1) := by decide +kernel
theorem dX13_areMirrored_83 : decode cX13_areMirrored 83 = .ok (.iload_n 3, 1) := by decide +kernel
theorem dX13_areMirrored_84 : decode cX13_areMirrored 84 = .ok (.invokestatic 141, 3) := by decide +kernel
theorem dX13_areMirrored_87 : decode cX13_areMirrored 87 = .ok (.iaload, 1) := by decide +kernel
theorem dX13_areMirrored_88 : decode cX13_areMirrored 88 = .ok (.invokestatic 153, 3) := by decide +kernel
theorem dX13_areMirrored_91 : decode cX13_areMirrored 91 = .ok (.if_icmp .eq 5, 3) := by decide +kernel
theorem dX13_areMirrored_94 : decode cX13_areMirrored 94 = .ok (.iconst 0, 1) := by decide +kernel
theorem dX13_areMirrored_95 : decode cX13_areMirrored 95 = .ok (.ireturn, 1) := by decide +kernel
theorem dX13_areMirrored_96 : decode cX13_areMirrored 96 = .ok (.iinc 3 1, 3) := by decide +kernel
theorem dX13_areMirrored_99 : decode cX13_areMirrored 99 = .ok (.goto (-44), 3) := by decide +kernel
theorem dX13_areMirrored_102 : decode cX13_areMirrored 102 = .ok (.iconst 1, 1) := by decide +kernel
theorem dX13_areMirrored_103 : decode cX13_areMirrored 103 = .ok (.ireturn, 1) := by decide +kernel
theorem dX13_steps_0 : decode cX13_steps 0 = .ok (.aload_n 0, 1) := by decide +kernel
theorem dX13_steps_1 : decode cX13_steps 1 = .ok (.dup, 1) := by decide +kernel
theorem dX13_steps_2 : decode cX13_steps 2 = .ok (.getfield 174, 3) := by decide +kernel
theorem dX13_steps_5 : decode cX13_steps 5 = .ok (.iload_n 1, 1) := by decide +kernel
theorem dX13_steps_6 : decode cX13_steps 6 = .ok (.iconst 3, 1) := by decide +kernel
theorem dX13_steps_7 : decode cX13_steps 7 = .ok (.if_icmp .ne 7, 3) := by decide +kernel
theorem dX13_steps_10 : decode cX13_steps 10 = .ok (.iconst 1, 1) := by decide +kernel
theorem dX13_steps_11 : decode cX13_steps 11 = .ok (.goto 13, 3) := by decide +kernel
theorem dX13_steps_14 : decode cX13_steps 14 = .ok (.iload_n 1, 1) := by decide +kernel
theorem dX13_steps_15 : decode cX13_steps 15 = .ok (.iconst 2, 1) := by decide +kernel
theorem dX13_steps_16 : decode cX13_steps 16 = .ok (.if_icmp .ne 7, 3) := by decide +kernel
theorem dX13_steps_19 : decode cX13_steps 19 = .ok (.iconst (-1), 1) := by decide +kernel
theorem dX13_steps_20 : decode cX13_steps 20 = .ok (.goto 4, 3) := by decide +kernel
theorem dX13_steps_23 : decode cX13_steps 23 = .ok (.iconst 0, 1) := by decide +kernel
theorem dX13_steps_24 : decode cX13_steps 24 = .ok (.iadd, 1) := by decide +kernel
theorem dX13_steps_25 : decode cX13_steps 25 = .ok (.putfield 174, 3) := by decide +kernel
theorem dX13_steps_28 : decode cX13_steps 28 = .ok (.aload_n 0, 1) := by decide +kernel
theorem dX13_steps_29 : decode cX13_steps 29 = .ok (.dup, 1) := by decide +kernel
theorem dX13_steps_30 : decode cX13_steps 30 = .ok (.getfield 177, 3) := by decide +kernel
theorem dX13_steps_33 : decode cX13_steps 33 = .ok (.iload_n 1, 1) := by decide +kernel
theorem dX13_steps_34 : decode cX13_steps 34 = .ok (.ifCond .ne 7, 3) := by decide +kernel
theorem dX13_steps_37 : decode cX13_steps 37 = .ok (.iconst 1, 1) := by decide +kernel
theorem dX13_steps_38 : decode cX13_steps 38 = .ok (.goto 13, 3) := by decide +kernel
theorem dX13_steps_41 : decode cX13_steps 41 = .ok (.iload_n 1, 1) := by decide +kernel
theorem dX13_steps_42 : decode cX13_steps 42 = .ok (.iconst 1, 1) := by decide +kernel
theorem dX13_steps_43 : decode cX13_steps 43 = .ok (.if_icmp .ne 7, 3) := by decide +kernel
theorem dX13_steps_46 : decode cX13_steps 46 = .ok (.iconst (-1), 1) := by decide +kernel
theorem dX13_steps_47 : decode cX13_steps 47 = .ok (.goto 4, 3) := by decide +kernel
theorem dX13_steps_50 : decode cX13_steps 50 = .ok (.iconst 0, 1) := by decide +kernel
theorem dX13_steps_51 : decode cX13_steps 51 = .ok (.iadd, 1) := by decide +kernel
theorem dX13_steps_52 : decode cX13_steps 52 = .ok (.putfield 177, 3) := by decide +kernel
theorem dX13_steps_55 : decode cX13_steps 55 = .ok (.aload_n 0, 1) := by decide +kernel
theorem dX13_steps_56 : decode cX13_steps 56 = .ok (.getfield 174, 3) := by decide +kernel
theorem dX13_steps_59 : decode cX13_steps 59 = .ok (.aload_n 0, 1) := by decide +kernel
theorem dX13_steps_60 : decode cX13_steps 60 = .ok (.getfield 177, 3) := by decide +kernel
theorem dX13_steps_63 : decode cX13_steps 63 = .ok (.invokestatic 84, 3) := by decide +kernel
theorem dX13_steps_66 : decode cX13_steps 66 = .ok (.ireturn, 1) := by decide +kernel
theorem dX13_bars_0 : decode cX13_bars 0 = .ok (.aload_n 0, 1) := by decide +kernel
theorem dX13_bars_1 : decode cX13_bars 1 = .ok (.aload_n 0, 1) := by decide +kernel
theorem dX13_bars_2 : decode cX13_bars 2 = .ok (.getfield 16, 3) := by decide +kernel
theorem dX13_bars_5 : decode cX13_bars 5 = .ok (.iload_n 1, 1) := by decide +kernel
theorem dX13_bars_6 : decode cX13_bars 6 = .ok (.iconst 1, 1) := by decide +kernel
theorem dX13_bars_7 : decode cX13_bars 7 = .ok (.invokestatic 74, 3) := by decide +kernel
theorem dX13_bars_10 : decode cX13_bars 10 = .ok (.iaload, 1) := by decide +kernel
theorem dX13_bars_11 : decode cX13_bars 11 = .ok (.putfield 174, 3) := by decide +kernel
theorem dX13_bars_14 : decode cX13_bars 14 = .ok (.aload_n 0, 1) := by decide +kernel
theorem dX13_bars_15 : decode cX13_bars 15 = .ok (.aload_n 0, 1) := by decide +kernel
theorem dX13_bars_16 : decode cX13_bars 16 = .ok (.getfield 16, 3) := by decide +kernel
theorem dX13_bars_19 : decode cX13_bars 19 = .ok (.iload_n 1, 1) := by decide +kernel
theorem dX13_bars_20 : decode cX13_bars 20 = .ok (.iconst 2, 1) := by decide +kernel
theorem dX13_bars_21 : decode cX13_bars 21 = .ok (.invokestatic 74, 3) := by decide +kernel
theorem dX13_bars_24 : decode cX13_bars 24 = .ok (.iaload, 1) := by decide +kernel
theorem dX13_bars_25 : decode cX13_bars 25 = .ok (.putfield 177, 3) := by decide +kernel
theorem dX13_bars_28 : decode cX13_bars 28 = .ok (.aload_n 0, 1) := by decide +kernel
theorem dX13_bars_29 : decode cX13_bars 29 = .ok (.iconst 0, 1) := by decide +kernel
theorem dX13_bars_30 : decode cX13_bars 30 = .ok (.putfield 180, 3) := by decide +kernel
theorem dX13_bars_33 : decode cX13_bars 33 = .ok (.iconst 0, 1) := by decide +kernel
theorem dX13_bars_34 : decode cX13_bars 34 = .ok (.istore_n 3, 1) := by decide +kernel
theorem dX13_bars_35 : decode cX13_bars 35 = .ok (.iload_n 3, 1) := by decide +kernel
theorem dX13_bars_36 : decode cX13_bars 36 = .ok (.aload_n 0, 1) := by decide +kernel
theorem dX13_bars_37 : decode cX13_bars 37 = .ok (.getfield 16, 3) := by decide +kernel
theorem dX13_bars_40 : decode cX13_bars 40 = .ok (.bipush 104, 2) := by decide +kernel
theorem dX13_bars_42 : decode cX13_bars 42 = .ok (.iload_n 2, 1) := by decide +kernel
theorem dX13_bars_43 : decode cX13_bars 43 = .ok (.iadd, 1) := by decide +kernel
theorem dX13_bars_44 : decode cX13_bars 44 = .ok (.iaload, 1) := by decide +kernel
theorem dX13_bars_45 : decode cX13_bars 45 = .ok (.if_icmp .ge 99, 3) := by decide +kernel
theorem dX13_bars_48 : decode cX13_bars 48 = .ok (.aload_n 0, 1) := by decide +kernel
theorem dX13_bars_49 : decode cX13_bars 49 = .ok (.getfield 174, 3) := by decide +kernel
theorem dX13_bars_52 : decode cX13_bars 52 = .ok (.istore 4, 2) := by decide +kernel
theorem dX13_bars_54 : decode cX13_bars 54 = .ok (.aload_n 0, 1) := by decide +kernel
theorem dX13_bars_55 : decode cX13_bars 55 = .ok (.aload_n 0, 1) := by decide +kernel
theorem dX13_bars_56 : decode cX13_bars 56 = .ok (.getfield 16, 3) := by decide +kernel
theorem dX13_bars_59 : decode cX13_bars 59 = .ok (.iload_n 2, 1) := by decide +kernel
theorem dX13_bars_60 : decode cX13_bars 60 = .ok (.iload_n 3, 1) := by decide +kernel
theorem dX13_bars_61 : decode cX13_bars 61 = .ok (.invokestatic 141, 3) := by decide +kernel
theorem dX13_bars_64 : decode cX13_bars 64 = .ok (.iaload, 1) := by decide +kernel
theorem dX13_bars_65 : decode cX13_bars 65 = .ok (.invokevirtual 183, 3) := by decide +kernel
theorem dX13_bars_68 : decode cX13_bars 68 = .ok (.ifCond .eq 40, 3) := by decide +kernel
theorem dX13_bars_71 : decode cX13_bars 71 = .ok (.aload_n 0, 1) := by decide +kernel
theorem dX13_bars_72 : decode cX13_bars 72 = .ok (.aload_n 0, 1) := by decide +kernel
theorem dX13_bars_73 : decode cX13_bars 73 = .ok (.getfield 174, 3) := by decide +kernel
theorem dX13_bars_76 : decode cX13_bars 76 = .ok (.aload_n 0, 1) := by decide +kernel
theorem dX13_bars_77 : decode cX13_bars 77 = .ok (.getfield 177, 3) := by decide +kernel
theorem dX13_bars_80 : decode cX13_bars 80 = .ok (.invokestatic 78, 3) := by decide +kernel
theorem dX13_bars_83 : decode cX13_bars 83 = .ok (.invokevirtual 113, 3) := by decide +kernel
theorem dX13_bars_86 : decode cX13_bars 86 = .ok (.ifCond .eq 22, 3) := by decide +kernel
theorem dX13_bars_89 : decode cX13_bars 89 = .ok (.aload_n 0, 1) := by decide +kernel
theorem dX13_bars_90 : decode cX13_bars 90 = .ok (.aload_n 0, 1) := by decide +kernel
theorem dX13_bars_91 : decode cX13_bars 91 = .ok (.getfield 174, 3) := by decide +kernel
theorem dX13_bars_94 : decode cX13_bars 94 = .ok (.aload_n 0, 1) := by decide +kernel
theorem dX13_bars_95 : decode cX13_bars 95 = .ok (.getfield 177, 3) := by decide +kernel
theorem dX13_bars_98 : decode cX13_bars 98 = .ok (.invokestatic 78, 3) := by decide +kernel
theorem dX13_bars_101 : decode cX13_bars 101 = .ok (.iload_n 1, 1) := by decide +kernel
theorem dX13_bars_102 : decode cX13_bars 102 = .ok (.invokevirtual 91, 3) := by decide +kernel
theorem dX13_bars_105 : decode cX13_bars 105 = .ok (.ifCond .eq 5, 3) := by decide +kernel
theorem dX13_bars_108 : decode cX13_bars 108 = .ok (.iload_n 3, 1) := by decide +kernel
theorem dX13_bars_109 : decode cX13_bars 109 = .ok (.ireturn, 1) := by decide +kernel
theorem dX13_bars_110 : decode cX13_bars 110 = .ok (.aload_n 0, 1) := by decide +kernel
theorem dX13_bars_111 : decode cX13_bars 111 = .ok (.dup, 1) := by decide +kernel
theorem dX13_bars_112 : decode cX13_bars 112 = .ok (.getfield 180, 3) := by decide +kernel
theorem dX13_bars_115 : decode cX13_bars 115 = .ok (.iload 4, 2) := by decide +kernel
theorem dX13_bars_117 : decode cX13_bars 117 = .ok (.iconst 4, 1) := by decide +kernel
theorem dX13_bars_118 : decode cX13_bars 118 = .ok (.if_icmp .eq 15, 3) := by decide +kernel
theorem dX13_bars_121 : decode cX13_bars 121 = .ok (.aload_n 0, 1) := by decide +kernel
theorem dX13_bars_122 : decode cX13_bars 122 = .ok (.getfield 174, 3) := by decide +kernel
theorem dX13_bars_125 : decode cX13_bars 125 = .ok (.iconst 4, 1) := by decide +kernel
theorem dX13_bars_126 : decode cX13_bars 126 = .ok (.if_icmp .ne 7, 3) := by decide +kernel
theorem dX13_bars_129 : decode cX13_bars 129 = .ok (.iconst 1, 1) := by decide +kernel
theorem dX13_bars_130 : decode cX13_bars 130 = .ok (.goto 4, 3) := by decide +kernel
theorem dX13_bars_133 : decode cX13_bars 133 = .ok (.iconst 0, 1) := by decide +kernel
theorem dX13_bars_134 : decode cX13_bars 134 = .ok (.iadd, 1) := by decide +kernel
theorem dX13_bars_135 : decode cX13_bars 135 = .ok (.putfield 180, 3) := by decide +kernel
theorem dX13_bars_138 : decode cX13_bars 138 = .ok (.iinc 3 1, 3) := by decide +kernel
theorem dX13_bars_141 : decode cX13_bars 141 = .ok (.goto (-106), 3) := by decide +kernel
theorem dX13_bars_144 : decode cX13_bars 144 = .ok (.iconst (-1), 1) := by decide +kernel
theorem dX13_bars_145 : decode cX13_bars 145 = .ok (.ireturn, 1) := by decide +kernel
theorem dX13_sails_0 : decode cX13_sails 0 = .ok (.iload_n 1, 1) := by decide +kernel
theorem dX13_sails_1 : decode cX13_sails 1 = .ok (.ifCond .ge 9, 3) := by decide +kernel
theorem dX13_sails_4 : decode cX13_sails 4 = .ok (.aload_n 0, 1) := by decide +kernel
theorem dX13_sails_5 : decode cX13_sails 5 = .ok (.iconst 1, 1) := by decide +kernel
theorem dX13_sails_6 : decode cX13_sails 6 = .ok (.invokevirtual 88, 3) := by decide +kernel
theorem dX13_sails_9 : decode cX13_sails 9 = .ok (.ireturn, 1) := by decide +kernel
theorem dX13_sails_10 : decode cX13_sails 10 = .ok (.iload_n 2, 1) := by decide +kernel
theorem dX13_sails_11 : decode cX13_sails 11 = .ok (.invokestatic 138, 3) := by decide +kernel
theorem dX13_sails_14 : decode cX13_sails 14 = .ok (.ifCond .ne 9, 3) := by decide +kernel
theorem dX13_sails_17 : decode cX13_sails 17 = .ok (.aload_n 0, 1) := by decide +kernel
theorem dX13_sails_18 : decode cX13_sails 18 = .ok (.iconst 2, 1) := by decide +kernel
theorem dX13_sails_19 : decode cX13_sails 19 = .ok (.invokevirtual 88, 3) := by decide +kernel
theorem dX13_sails_22 : decode cX13_sails 22 = .ok (.ireturn, 1) := by decide +kernel
theorem dX13_sails_23 : decode cX13_sails 23 = .ok (.aload_n 0, 1) := by decide +kernel
theorem dX13_sails_24 : decode cX13_sails 24 = .ok (.iload_n 1, 1) := by decide +kernel
theorem dX13_sails_25 : decode cX13_sails 25 = .ok (.iload_n 2, 1) := by decide +kernel
theorem dX13_sails_26 : decode cX13_sails 26 = .ok (.invokevirtual 186, 3) := by decide +kernel
theorem dX13_sails_29 : decode cX13_sails 29 = .ok (.ifCond .lt 9, 3) := by decide +kernel
theorem dX13_sails_32 : decode cX13_sails 32 = .ok (.aload_n 0, 1) := by decide +kernel
theorem dX13_sails_33 : decode cX13_sails 33 = .ok (.iconst 3, 1) := by decide +kernel
theorem dX13_sails_34 : decode cX13_sails 34 = .ok (.invokevirtual 88, 3) := by decide +kernel
theorem dX13_sails_37 : decode cX13_sails 37 = .ok (.ireturn, 1) := by decide +kernel
theorem dX13_sails_38 : decode cX13_sails 38 = .ok (.aload_n 0, 1) := by decide +kernel
theorem dX13_sails_39 : decode cX13_sails 39 = .ok (.getfield 16, 3) := by decide +kernel
theorem dX13_sails_42 : decode cX13_sails 42 = .ok (.bipush 104, 2) := by decide +kernel
theorem dX13_sails_44 : decode cX13_sails 44 = .ok (.iload_n 2, 1) := by decide +kernel
theorem dX13_sails_45 : decode cX13_sails 45 = .ok (.iadd, 1) := by decide +kernel
theorem dX13_sails_46 : decode cX13_sails 46 = .ok (.iaload, 1) := by decide +kernel
theorem dX13_sails_47 : decode cX13_sails 47 = .ok (.iconst 1, 1) := by decide +kernel
theorem dX13_sails_48 : decode cX13_sails 48 = .ok (.ior, 1) := by decide +kernel
theorem dX13_sails_49 : decode cX13_sails 49 = .ok (.istore_n 3, 1) := by decide +kernel
theorem dX13_sails_50 : decode cX13_sails 50 = .ok (.aload_n 0, 1) := by decide +kernel
theorem dX13_sails_51 : decode cX13_sails 51 = .ok (.getfield 16, 3) := by decide +kernel
theorem dX13_sails_54 : decode cX13_sails 54 = .ok (.iload_n 1, 1) := by decide +kernel
theorem dX13_sails_55 : decode cX13_sails 55 = .ok (.iconst 1, 1) := by decide +kernel
theorem dX13_sails_56 : decode cX13_sails 56 = .ok (.invokestatic 74, 3) := by decide +kernel
theorem dX13_sails_59 : decode cX13_sails 59 = .ok (.aload_n 0, 1) := by decide +kernel
theorem dX13_sails_60 : decode cX13_sails 60 = .ok (.getfield 174, 3) := by decide +kernel
theorem dX13_sails_63 : decode cX13_sails 63 = .ok (.iastore, 1) := by decide +kernel
theorem dX13_sails_64 : decode cX13_sails 64 = .ok (.aload_n 0, 1) := by decide +kernel
theorem dX13_sails_65 : decode cX13_sails 65 = .ok (.getfield 16, 3) := by decide +kernel
theorem dX13_sails_68 : decode cX13_sails 68 = .ok (.iload_n 1, 1) := by decide +kernel
theorem dX13_sails_69 : decode cX13_sails 69 = .ok (.iconst 2, 1) := by decide +kernel
theorem dX13_sails_70 : decode cX13_sails 70 = .ok (.invokestatic 74, 3) := by decide +kernel
theorem dX13_sails_73 : decode cX13_sails 73 = .ok (.aload_n 0, 1) := by decide +kernel
theorem dX13_sails_74 : decode cX13_sails 74 = .ok (.getfield 177, 3) := by decide +kernel
theorem dX13_sails_77 : decode cX13_sails 77 = .ok (.iastore, 1) := by decide +kernel
theorem dX13_sails_78 : decode cX13_sails 78 = .ok (.aload_n 0, 1) := by decide +kernel
theorem dX13_sails_79 : decode cX13_sails 79 = .ok (.getfield 16, 3) := by decide +kernel
theorem dX13_sails_82 : decode cX13_sails 82 = .ok (.iload_n 1, 1) := by decide +kernel
theorem dX13_sails_83 : decode cX13_sails 83 = .ok (.iconst 3, 1) := by decide +kernel
theorem dX13_sails_84 : decode cX13_sails 84 = .ok (.invokestatic 74, 3) := by decide +kernel
theorem dX13_sails_87 : decode cX13_sails 87 = .ok (.dup2, 1) := by decide +kernel
theorem dX13_sails_88 : decode cX13_sails 88 = .ok (.iaload, 1) := by decide +kernel
theorem dX13_sails_89 : decode cX13_sails 89 = .ok (.iload_n 3, 1) := by decide +kernel
theorem dX13_sails_90 : decode cX13_sails 90 = .ok (.iadd, 1) := by decide +kernel
theorem dX13_sails_91 : decode cX13_sails 91 = .ok (.iastore, 1) := by decide +kernel
theorem dX13_sails_92 : decode cX13_sails 92 = .ok (.aload_n 0, 1) := by decide +kernel
theorem dX13_sails_93 : decode cX13_sails 93 = .ok (.getfield 16, 3) := by decide +kernel
theorem dX13_sails_96 : decode cX13_sails 96 = .ok (.bipush 6, 2) := by decide +kernel
theorem dX13_sails_98 : decode cX13_sails 98 = .ok (.dup2, 1) := by decide +kernel
theorem dX13_sails_99 : decode cX13_sails 99 = .ok (.iaload, 1) := by decide +kernel
theorem dX13_sails_100 : decode cX13_sails 100 = .ok (.aload_n 0, 1) := by decide +kernel
theorem dX13_sails_101 : decode cX13_sails 101 = .ok (.getfield 180, 3) := by decide +kernel
theorem dX13_sails_104 : decode cX13_sails 104 = .ok (.iadd, 1) := by decide +kernel
theorem dX13_sails_105 : decode cX13_sails 105 = .ok (.iastore, 1) := by decide +kernel
theorem dX13_sails_106 : decode cX13_sails 106 = .ok (.iload_n 3, 1) := by decide +kernel
theorem dX13_sails_107 : decode cX13_sails 107 = .ok (.ireturn, 1) := by decide +kernel
theorem dX13_sail_0 : decode cX13_sail 0 = .ok (.aload_n 0, 1) := by decide +kernel
theorem dX13_sail_1 : decode cX13_sail 1 = .ok (.invokevirtual 94, 3) := by decide +kernel
theorem dX13_sail_4 : decode cX13_sail 4 = .ok (.aload_n 0, 1) := by decide +kernel
theorem dX13_sail_5 : decode cX13_sail 5 = .ok (.aload_n 0, 1) := by decide +kernel
theorem dX13_sail_6 : decode cX13_sail 6 = .ok (.aload_n 0, 1) := by decide +kernel
theorem dX13_sail_7 : decode cX13_sail 7 = .ok (.iload_n 1, 1) := by decide +kernel
theorem dX13_sail_8 : decode cX13_sail 8 = .ok (.invokevirtual 129, 3) := by decide +kernel
theorem dX13_sail_11 : decode cX13_sail 11 = .ok (.iload_n 2, 1) := by decide +kernel
theorem dX13_sail_12 : decode cX13_sail 12 = .ok (.invokevirtual 189, 3) := by decide +kernel
theorem dX13_sail_15 : decode cX13_sail 15 = .ok (.invokevirtual 100, 3) := by decide +kernel
theorem dX13_sail_18 : decode cX13_sail 18 = .ok (.ireturn, 1) := by decide +kernel
theorem dX13_blockedMove_0 : decode cX13_blockedMove 0 = .ok (.aload_n 0, 1) := by decide +kernel
theorem dX13_blockedMove_1 : decode cX13_blockedMove 1 = .ok (.aload_n 0, 1) := by decide +kernel
theorem dX13_blockedMove_2 : decode cX13_blockedMove 2 = .ok (.iload_n 1, 1) := by decide +kernel
theorem dX13_blockedMove_3 : decode cX13_blockedMove 3 = .ok (.invokevirtual 129, 3) := by decide +kernel
theorem dX13_blockedMove_6 : decode cX13_blockedMove 6 = .ok (.ifCond .ge 7, 3) := by decide +kernel
theorem dX13_blockedMove_9 : decode cX13_blockedMove 9 = .ok (.iconst 1, 1) := by decide +kernel
theorem dX13_blockedMove_10 : decode cX13_blockedMove 10 = .ok (.goto 15, 3) := by decide +kernel
theorem dX13_blockedMove_13 : decode cX13_blockedMove 13 = .ok (.iload_n 2, 1) := by decide +kernel
theorem dX13_blockedMove_14 : decode cX13_blockedMove 14 = .ok (.invokestatic 138, 3) := by decide +kernel
theorem dX13_blockedMove_17 : decode cX13_blockedMove 17 = .ok (.ifCond .eq 7, 3) := by decide +kernel
theorem dX13_blockedMove_20 : decode cX13_blockedMove 20 = .ok (.iconst 0, 1) := by decide +kernel
theorem dX13_blockedMove_21 : decode cX13_blockedMove 21 = .ok (.goto 4, 3) := by decide +kernel
theorem dX13_blockedMove_24 : decode cX13_blockedMove 24 = .ok (.iconst 2, 1) := by decide +kernel
theorem dX13_blockedMove_25 : decode cX13_blockedMove 25 = .ok (.putfield 53, 3) := by decide +kernel
theorem dX13_blockedMove_28 : decode cX13_blockedMove 28 = .ok (.aload_n 0, 1) := by decide +kernel
theorem dX13_blockedMove_29 : decode cX13_blockedMove 29 = .ok (.getfield 53, 3) := by decide +kernel
theorem dX13_blockedMove_32 : decode cX13_blockedMove 32 = .ok (.ifCond .ne 16, 3) := by decide +kernel
theorem dX13_blockedMove_35 : decode cX13_blockedMove 35 = .ok (.aload_n 0, 1) := by decide +kernel
theorem dX13_blockedMove_36 : decode cX13_blockedMove 36 = .ok (.aload_n 0, 1) := by decide +kernel
theorem dX13_blockedMove_37 : decode cX13_blockedMove 37 = .ok (.iload_n 1, 1) := by decide +kernel
theorem dX13_blockedMove_38 : decode cX13_blockedMove 38 = .ok (.invokevirtual 129, 3) := by decide +kernel
theorem dX13_blockedMove_41 : decode cX13_blockedMove 41 = .ok (.iload_n 2, 1) := by decide +kernel
theorem dX13_blockedMove_42 : decode cX13_blockedMove 42 = .ok (.invokevirtual 186, 3) := by decide +kernel
theorem dX13_blockedMove_45 : decode cX13_blockedMove 45 = .ok (.goto 4, 3) := by decide +kernel
theorem dX13_blockedMove_48 : decode cX13_blockedMove 48 = .ok (.iconst 0, 1) := by decide +kernel
theorem dX13_blockedMove_49 : decode cX13_blockedMove 49 = .ok (.ireturn, 1) := by decide +kernel
theorem dX13_reeds_0 : decode cX13_reeds 0 = .ok (.aload_n 0, 1) := by decide +kernel
theorem dX13_reeds_1 : decode cX13_reeds 1 = .ok (.iload_n 1, 1) := by decide +kernel
theorem dX13_reeds_2 : decode cX13_reeds 2 = .ok (.invokevirtual 67, 3) := by decide +kernel
theorem dX13_reeds_5 : decode cX13_reeds 5 = .ok (.iload_n 1, 1) := by decide +kernel
theorem dX13_reeds_6 : decode cX13_reeds 6 = .ok (.invokestatic 71, 3) := by decide +kernel
theorem dX13_reeds_9 : decode cX13_reeds 9 = .ok (.iload_n 1, 1) := by decide +kernel
theorem dX13_reeds_10 : decode cX13_reeds 10 = .ok (.if_icmp .ne 7, 3) := by decide +kernel
theorem dX13_reeds_13 : decode cX13_reeds 13 = .ok (.iconst 0, 1) := by decide +kernel
theorem dX13_reeds_14 : decode cX13_reeds 14 = .ok (.goto 11, 3) := by decide +kernel
theorem dX13_reeds_17 : decode cX13_reeds 17 = .ok (.aload_n 0, 1) := by decide +kernel
theorem dX13_reeds_18 : decode cX13_reeds 18 = .ok (.iload_n 1, 1) := by decide +kernel
theorem dX13_reeds_19 : decode cX13_reeds 19 = .ok (.invokestatic 71, 3) := by decide +kernel
theorem dX13_reeds_22 : decode cX13_reeds 22 = .ok (.invokevirtual 67, 3) := by decide +kernel
theorem dX13_reeds_25 : decode cX13_reeds 25 = .ok (.iadd, 1) := by decide +kernel
theorem dX13_reeds_26 : decode cX13_reeds 26 = .ok (.ireturn, 1) := by decide +kernel
theorem dX13_isFoggy_0 : decode cX13_isFoggy 0 = .ok (.aload_n 0, 1) := by decide +kernel
theorem dX13_isFoggy_1 : decode cX13_isFoggy 1 = .ok (.getfield 16, 3) := by decide +kernel
theorem dX13_isFoggy_4 : decode cX13_isFoggy 4 = .ok (.iconst 1, 1) := by decide +kernel
theorem dX13_isFoggy_5 : decode cX13_isFoggy 5 = .ok (.iaload, 1) := by decide +kernel
theorem dX13_isFoggy_6 : decode cX13_isFoggy 6 = .ok (.iconst 1, 1) := by decide +kernel
theorem dX13_isFoggy_7 : decode cX13_isFoggy 7 = .ok (.if_icmp .ne 11, 3) := by decide +kernel
theorem dX13_isFoggy_10 : decode cX13_isFoggy 10 = .ok (.iload_n 1, 1) := by decide +kernel
theorem dX13_isFoggy_11 : decode cX13_isFoggy 11 = .ok (.bipush 9, 2) := by decide +kernel
theorem dX13_isFoggy_13 : decode cX13_isFoggy 13 = .ok (.irem, 1) := by decide +kernel
theorem dX13_isFoggy_14 : decode cX13_isFoggy 14 = .ok (.iconst 4, 1) := by decide +kernel
theorem dX13_isFoggy_15 : decode cX13_isFoggy 15 = .ok (.if_icmp .lt 21, 3) := by decide +kernel
theorem dX13_isFoggy_18 : decode cX13_isFoggy 18 = .ok (.aload_n 0, 1) := by decide +kernel
theorem dX13_isFoggy_19 : decode cX13_isFoggy 19 = .ok (.getfield 16, 3) := by decide +kernel
theorem dX13_isFoggy_22 : decode cX13_isFoggy 22 = .ok (.iconst 1, 1) := by decide +kernel
theorem dX13_isFoggy_23 : decode cX13_isFoggy 23 = .ok (.iaload, 1) := by decide +kernel
theorem dX13_isFoggy_24 : decode cX13_isFoggy 24 = .ok (.iconst 2, 1) := by decide +kernel
theorem dX13_isFoggy_25 : decode cX13_isFoggy 25 = .ok (.if_icmp .ne 15, 3) := by decide +kernel
theorem dX13_isFoggy_28 : decode cX13_isFoggy 28 = .ok (.iload_n 1, 1) := by decide +kernel
theorem dX13_isFoggy_29 : decode cX13_isFoggy 29 = .ok (.bipush 9, 2) := by decide +kernel
theorem dX13_isFoggy_31 : decode cX13_isFoggy 31 = .ok (.irem, 1) := by decide +kernel
theorem dX13_isFoggy_32 : decode cX13_isFoggy 32 = .ok (.iconst 4, 1) := by decide +kernel
theorem dX13_isFoggy_33 : decode cX13_isFoggy 33 = .ok (.if_icmp .le 7, 3) := by decide +kernel
theorem dX13_isFoggy_36 : decode cX13_isFoggy 36 = .ok (.iconst 1, 1) := by decide +kernel
theorem dX13_isFoggy_37 : decode cX13_isFoggy 37 = .ok (.goto 4, 3) := by decide +kernel
theorem dX13_isFoggy_40 : decode cX13_isFoggy 40 = .ok (.iconst 0, 1) := by decide +kernel
theorem dX13_isFoggy_41 : decode cX13_isFoggy 41 = .ok (.ireturn, 1) := by decide +kernel
theorem dX13_costs_0 : decode cX13_costs 0 = .ok (.iload_n 2, 1) := by decide +kernel
theorem dX13_costs_1 : decode cX13_costs 1 = .ok (.ifCond .ne 7, 3) := by decide +kernel
theorem dX13_costs_4 : decode cX13_costs 4 = .ok (.iconst 1, 1) := by decide +kernel
theorem dX13_costs_5 : decode cX13_costs 5 = .ok (.goto 29, 3) := by decide +kernel
theorem dX13_costs_8 : decode cX13_costs 8 = .ok (.iload_n 2, 1) := by decide +kernel
theorem dX13_costs_9 : decode cX13_costs 9 = .ok (.iconst 1, 1) := by decide +kernel
theorem dX13_costs_10 : decode cX13_costs 10 = .ok (.if_icmp .ne 19, 3) := by decide +kernel
theorem dX13_costs_13 : decode cX13_costs 13 = .ok (.aload_n 0, 1) := by decide +kernel
theorem dX13_costs_14 : decode cX13_costs 14 = .ok (.iload_n 1, 1) := by decide +kernel
theorem dX13_costs_15 : decode cX13_costs 15 = .ok (.invokevirtual 192, 3) := by decide +kernel
theorem dX13_costs_18 : decode cX13_costs 18 = .ok (.ifCond .eq 7, 3) := by decide +kernel
theorem dX13_costs_21 : decode cX13_costs 21 = .ok (.iconst 2, 1) := by decide +kernel
theorem dX13_costs_22 : decode cX13_costs 22 = .ok (.goto 12, 3) := by decide +kernel
theorem dX13_costs_25 : decode cX13_costs 25 = .ok (.iconst 1, 1) := by decide +kernel
theorem dX13_costs_26 : decode cX13_costs 26 = .ok (.goto 8, 3) := by decide +kernel
theorem dX13_costs_29 : decode cX13_costs 29 = .ok (.aload_n 0, 1) := by decide +kernel
theorem dX13_costs_30 : decode cX13_costs 30 = .ok (.iload_n 1, 1) := by decide +kernel
theorem dX13_costs_31 : decode cX13_costs 31 = .ok (.invokevirtual 195, 3) := by decide +kernel
theorem dX13_costs_34 : decode cX13_costs 34 = .ok (.ireturn, 1) := by decide +kernel
theorem dX13_reaches_0 : decode cX13_reaches 0 = .ok (.iconst 0, 1) := by decide +kernel
theorem dX13_reaches_1 : decode cX13_reaches 1 = .ok (.istore_n 3, 1) := by decide +kernel
theorem dX13_reaches_2 : decode cX13_reaches 2 = .ok (.iload_n 3, 1) := by decide +kernel
theorem dX13_reaches_3 : decode cX13_reaches 3 = .ok (.bipush 81, 2) := by decide +kernel
theorem dX13_reaches_5 : decode cX13_reaches 5 = .ok (.if_icmp .ge 26, 3) := by decide +kernel
theorem dX13_reaches_8 : decode cX13_reaches 8 = .ok (.aload_n 0, 1) := by decide +kernel
theorem dX13_reaches_9 : decode cX13_reaches 9 = .ok (.getfield 29, 3) := by decide +kernel
theorem dX13_reaches_12 : decode cX13_reaches 12 = .ok (.iload_n 3, 1) := by decide +kernel
theorem dX13_reaches_13 : decode cX13_reaches 13 = .ok (.iload_n 3, 1) := by decide +kernel
theorem dX13_reaches_14 : decode cX13_reaches 14 = .ok (.iload_n 1, 1) := by decide +kernel
theorem dX13_reaches_15 : decode cX13_reaches 15 = .ok (.if_icmp .ne 7, 3) := by decide +kernel
theorem dX13_reaches_18 : decode cX13_reaches 18 = .ok (.iconst 0, 1) := by decide +kernel
theorem dX13_reaches_19 : decode cX13_reaches 19 = .ok (.goto 5, 3) := by decide +kernel
theorem dX13_reaches_22 : decode cX13_reaches 22 = .ok (.ldc 198, 2) := by decide +kernel
theorem dX13_reaches_24 : decode cX13_reaches 24 = .ok (.iastore, 1) := by decide +kernel
theorem dX13_reaches_25 : decode cX13_reaches 25 = .ok (.iinc 3 1, 3) := by decide +kernel
theorem dX13_reaches_28 : decode cX13_reaches 28 = .ok (.goto (-26), 3) := by decide +kernel
theorem dX13_reaches_31 : decode cX13_reaches 31 = .ok (.iconst 1, 1) := by decide +kernel
theorem dX13_reaches_32 : decode cX13_reaches 32 = .ok (.istore_n 3, 1) := by decide +kernel
theorem dX13_reaches_33 : decode cX13_reaches 33 = .ok (.iload_n 3, 1) := by decide +kernel
theorem dX13_reaches_34 : decode cX13_reaches 34 = .ok (.ifCond .eq 236, 3) := by decide +kernel
theorem dX13_reaches_37 : decode cX13_reaches 37 = .ok (.iconst 0, 1) := by decide +kernel
theorem dX13_reaches_38 : decode cX13_reaches 38 = .ok (.istore_n 3, 1) := by decide +kernel
theorem dX13_reaches_39 : decode cX13_reaches 39 = .ok (.iconst 0, 1) := by decide +kernel
theorem dX13_reaches_40 : decode cX13_reaches 40 = .ok (.istore 4, 2) := by decide +kernel
theorem dX13_reaches_42 : decode cX13_reaches 42 = .ok (.iload 4, 2) := by decide +kernel
theorem dX13_reaches_44 : decode cX13_reaches 44 = .ok (.bipush 81, 2) := by decide +kernel
theorem dX13_reaches_46 : decode cX13_reaches 46 = .ok (.if_icmp .ge 221, 3) := by decide +kernel
theorem dX13_reaches_49 : decode cX13_reaches 49 = .ok (.iload_n 2, 1) := by decide +kernel
theorem dX13_reaches_50 : decode cX13_reaches 50 = .ok (.iconst 2, 1) := by decide +kernel
theorem dX13_reaches_51 : decode cX13_reaches 51 = .ok (.if_icmp .ge 15, 3) := by decide +kernel
theorem dX13_reaches_54 : decode cX13_reaches 54 = .ok (.aload_n 0, 1) := by decide +kernel
theorem dX13_reaches_55 : decode cX13_reaches 55 = .ok (.iload 4, 2) := by decide +kernel
theorem dX13_reaches_57 : decode cX13_reaches 57 = .ok (.invokevirtual 113, 3) := by decide +kernel
theorem dX13_reaches_60 : decode cX13_reaches 60 = .ok (.ifCond .ne 6, 3) := by decide +kernel
theorem dX13_reaches_63 : decode cX13_reaches 63 = .ok (.goto 198, 3) := by decide +kernel
theorem dX13_reaches_66 : decode cX13_reaches 66 = .ok (.iload 4, 2) := by decide +kernel
theorem dX13_reaches_68 : decode cX13_reaches 68 = .ok (.bipush 9, 2) := by decide +kernel
theorem dX13_reaches_70 : decode cX13_reaches 70 = .ok (.irem, 1) := by decide +kernel
theorem dX13_reaches_71 : decode cX13_reaches 71 = .ok (.istore 5, 2) := by decide +kernel
theorem dX13_reaches_73 : decode cX13_reaches 73 = .ok (.iload 4, 2) := by decide +kernel
theorem dX13_reaches_75 : decode cX13_reaches 75 = .ok (.bipush 9, 2) := by decide +kernel
theorem dX13_reaches_77 : decode cX13_reaches 77 = .ok (.idiv, 1) := by decide +kernel
theorem dX13_reaches_78 : decode cX13_reaches 78 = .ok (.istore 6, 2) := by decide +kernel
theorem dX13_reaches_80 : decode cX13_reaches 80 = .ok (.ldc 198, 2) := by decide +kernel
theorem dX13_reaches_82 : decode cX13_reaches 82 = .ok (.istore 7, 2) := by decide +kernel
theorem dX13_reaches_84 : decode cX13_reaches 84 = .ok (.iload 5, 2) := by decide +kernel
theorem dX13_reaches_86 : decode cX13_reaches 86 = .ok (.ifCond .le 28, 3) := by decide +kernel
theorem dX13_reaches_89 : decode cX13_reaches 89 = .ok (.aload_n 0, 1) := by decide +kernel
theorem dX13_reaches_90 : decode cX13_reaches 90 = .ok (.getfield 29, 3) := by decide +kernel
theorem dX13_reaches_93 : decode cX13_reaches 93 = .ok (.iload 4, 2) := by decide +kernel
theorem dX13_reaches_95 : decode cX13_reaches 95 = .ok (.iconst 1, 1) := by decide +kernel
theorem dX13_reaches_96 : decode cX13_reaches 96 = .ok (.isub, 1) := by decide +kernel
theorem dX13_reaches_97 : decode cX13_reaches 97 = .ok (.iaload, 1) := by decide +kernel
theorem dX13_reaches_98 : decode cX13_reaches 98 = .ok (.iload 7, 2) := by decide +kernel
theorem dX13_reaches_100 : decode cX13_reaches 100 = .ok (.if_icmp .ge 14, 3) := by decide +kernel
theorem dX13_reaches_103 : decode cX13_reaches 103 = .ok (.aload_n 0, 1) := by decide +kernel
theorem dX13_reaches_104 : decode cX13_reaches 104 = .ok (.getfield 29, 3) := by decide +kernel
theorem dX13_reaches_107 : decode cX13_reaches 107 = .ok (.iload 4, 2) := by decide +kernel
theorem dX13_reaches_109 : decode cX13_reaches 109 = .ok (.iconst 1, 1) := by decide +kernel
theorem dX13_reaches_110 : decode cX13_reaches 110 = .ok (.isub, 1) := by decide +kernel
theorem dX13_reaches_111 : decode cX13_reaches 111 = .ok (.iaload, 1) := by decide +kernel
theorem dX13_reaches_112 : decode cX13_reaches 112 = .ok (.istore 7, 2) := by decide +kernel
theorem dX13_reaches_114 : decode cX13_reaches 114 = .ok (.iload 5, 2) := by decide +kernel
theorem dX13_reaches_116 : decode cX13_reaches 116 = .ok (.bipush 8, 2) := by decide +kernel
theorem dX13_reaches_118 : decode cX13_reaches 118 = .ok (.if_icmp .ge 28, 3) := by decide +kernel
theorem dX13_reaches_121 : decode cX13_reaches 121 = .ok (.aload_n 0, 1) := by decide +kernel
theorem dX13_reaches_122 : decode cX13_reaches 122 = .ok (.getfield 29, 3) := by decide +kernel
theorem dX13_reaches_125 : decode cX13_reaches 125 = .ok (.iload 4, 2) := by decide +kernel
theorem dX13_reaches_127 : decode cX13_reaches 127 = .ok (.iconst 1, 1) := by decide +kernel
theorem dX13_reaches_128 : decode cX13_reaches 128 = .ok (.iadd, 1) := by decide +kernel
theorem dX13_reaches_129 : decode cX13_reaches 129 = .ok (.iaload, 1) := by decide +kernel
theorem dX13_reaches_130 : decode cX13_reaches 130 = .ok (.iload 7, 2) := by decide +kernel
theorem dX13_reaches_132 : decode cX13_reaches 132 = .ok (.if_icmp .ge 14, 3) := by decide +kernel
theorem dX13_reaches_135 : decode cX13_reaches 135 = .ok (.aload_n 0, 1) := by decide +kernel
theorem dX13_reaches_136 : decode cX13_reaches 136 = .ok (.getfield 29, 3) := by decide +kernel
theorem dX13_reaches_139 : decode cX13_reaches 139 = .ok (.iload 4, 2) := by decide +kernel
theorem dX13_reaches_141 : decode cX13_reaches 141 = .ok (.iconst 1, 1) := by decide +kernel
theorem dX13_reaches_142 : decode cX13_reaches 142 = .ok (.iadd, 1) := by decide +kernel
theorem dX13_reaches_143 : decode cX13_reaches 143 = .ok (.iaload, 1) := by decide +kernel
theorem dX13_reaches_144 : decode cX13_reaches 144 = .ok (.istore 7, 2) := by decide +kernel
theorem dX13_reaches_146 : decode cX13_reaches 146 = .ok (.iload 6, 2) := by decide +kernel
theorem dX13_reaches_148 : decode cX13_reaches 148 = .ok (.ifCond .le 30, 3) := by decide +kernel
theorem dX13_reaches_151 : decode cX13_reaches 151 = .ok (.aload_n 0, 1) := by decide +kernel
theorem dX13_reaches_152 : decode cX13_reaches 152 = .ok (.getfield 29, 3) := by decide +kernel
theorem dX13_reaches_155 : decode cX13_reaches 155 = .ok (.iload 4, 2) := by decide +kernel
theorem dX13_reaches_157 : decode cX13_reaches 157 = .ok (.bipush 9, 2) := by decide +kernel
theorem dX13_reaches_159 : decode cX13_reaches 159 = .ok (.isub, 1) := by decide +kernel
theorem dX13_reaches_160 : decode cX13_reaches 160 = .ok (.iaload, 1) := by decide +kernel
theorem dX13_reaches_161 : decode cX13_reaches 161 = .ok (.iload 7, 2) := by decide +kernel
theorem dX13_reaches_163 : decode cX13_reaches 163 = .ok (.if_icmp .ge 15, 3) := by decide +kernel
theorem dX13_reaches_166 : decode cX13_reaches 166 = .ok (.aload_n 0, 1) := by decide +kernel
theorem dX13_reaches_167 : decode cX13_reaches 167 = .ok (.getfield 29, 3) := by decide +kernel
theorem dX13_reaches_170 : decode cX13_reaches 170 = .ok (.iload 4, 2) := by decide +kernel
theorem dX13_reaches_172 : decode cX13_reaches 172 = .ok (.bipush 9, 2) := by decide +kernel
theorem dX13_reaches_174 : decode cX13_reaches 174 = .ok (.isub, 1) := by decide +kernel
theorem dX13_reaches_175 : decode cX13_reaches 175 = .ok (.iaload, 1) := by decide +kernel
theorem dX13_reaches_176 : decode cX13_reaches 176 = .ok (.istore 7, 2) := by decide +kernel
theorem dX13_reaches_178 : decode cX13_reaches 178 = .ok (.iload 6, 2) := by decide +kernel
theorem dX13_reaches_180 : decode cX13_reaches 180 = .ok (.bipush 8, 2) := by decide +kernel
theorem dX13_reaches_182 : decode cX13_reaches 182 = .ok (.if_icmp .ge 30, 3) := by decide +kernel
theorem dX13_reaches_185 : decode cX13_reaches 185 = .ok (.aload_n 0, 1) := by decide +kernel
theorem dX13_reaches_186 : decode cX13_reaches 186 = .ok (.getfield 29, 3) := by decide +kernel
theorem dX13_reaches_189 : decode cX13_reaches 189 = .ok (.iload 4, 2) := by decide +kernel
theorem dX13_reaches_191 : decode cX13_reaches 191 = .ok (.bipush 9, 2) := by decide +kernel
theorem dX13_reaches_193 : decode cX13_reaches 193 = .ok (.iadd, 1) := by decide +kernel
theorem dX13_reaches_194 : decode cX13_reaches 194 = .ok (.iaload, 1) := by decide +kernel
theorem dX13_reaches_195 : decode cX13_reaches 195 = .ok (.iload 7, 2) := by decide +kernel
theorem dX13_reaches_197 : decode cX13_reaches 197 = .ok (.if_icmp .ge 15, 3) := by decide +kernel
theorem dX13_reaches_200 : decode cX13_reaches 200 = .ok (.aload_n 0, 1) := by decide +kernel
theorem dX13_reaches_201 : decode cX13_reaches 201 = .ok (.getfield 29, 3) := by decide +kernel
theorem dX13_reaches_204 : decode cX13_reaches 204 = .ok (.iload 4, 2) := by decide +kernel
theorem dX13_reaches_206 : decode cX13_reaches 206 = .ok (.bipush 9, 2) := by decide +kernel
theorem dX13_reaches_208 : decode cX13_reaches 208 = .ok (.iadd, 1) := by decide +kernel
theorem dX13_reaches_209 : decode cX13_reaches 209 = .ok (.iaload, 1) := by decide +kernel
theorem dX13_reaches_210 : decode cX13_reaches 210 = .ok (.istore 7, 2) := by decide +kernel
theorem dX13_reaches_212 : decode cX13_reaches 212 = .ok (.iload 7, 2) := by decide +kernel
theorem dX13_reaches_214 : decode cX13_reaches 214 = .ok (.ldc 198, 2) := by decide +kernel
theorem dX13_reaches_216 : decode cX13_reaches 216 = .ok (.if_icmp .eq 45, 3) := by decide +kernel
theorem dX13_reaches_219 : decode cX13_reaches 219 = .ok (.iload 7, 2) := by decide +kernel
theorem dX13_reaches_221 : decode cX13_reaches 221 = .ok (.aload_n 0, 1) := by decide +kernel
theorem dX13_reaches_222 : decode cX13_reaches 222 = .ok (.iload 4, 2) := by decide +kernel
theorem dX13_reaches_224 : decode cX13_reaches 224 = .ok (.iload_n 2, 1) := by decide +kernel
theorem dX13_reaches_225 : decode cX13_reaches 225 = .ok (.invokevirtual 199, 3) := by decide +kernel
theorem dX13_reaches_228 : decode cX13_reaches 228 = .ok (.iadd, 1) := by decide +kernel
theorem dX13_reaches_229 : decode cX13_reaches 229 = .ok (.aload_n 0, 1) := by decide +kernel
theorem dX13_reaches_230 : decode cX13_reaches 230 = .ok (.getfield 29, 3) := by decide +kernel
theorem dX13_reaches_233 : decode cX13_reaches 233 = .ok (.iload 4, 2) := by decide +kernel
theorem dX13_reaches_235 : decode cX13_reaches 235 = .ok (.iaload, 1) := by decide +kernel
theorem dX13_reaches_236 : decode cX13_reaches 236 = .ok (.if_icmp .lt 6, 3) := by decide +kernel
theorem dX13_reaches_239 : decode cX13_reaches 239 = .ok (.goto 22, 3) := by decide +kernel
theorem dX13_reaches_242 : decode cX13_reaches 242 = .ok (.aload_n 0, 1) := by decide +kernel
theorem dX13_reaches_243 : decode cX13_reaches 243 = .ok (.getfield 29, 3) := by decide +kernel
theorem dX13_reaches_246 : decode cX13_reaches 246 = .ok (.iload 4, 2) := by decide +kernel
theorem dX13_reaches_248 : decode cX13_reaches 248 = .ok (.iload 7, 2) := by decide +kernel
theorem dX13_reaches_250 : decode cX13_reaches 250 = .ok (.aload_n 0, 1) := by decide +kernel
theorem dX13_reaches_251 : decode cX13_reaches 251 = .ok (.iload 4, 2) := by decide +kernel
theorem dX13_reaches_253 : decode cX13_reaches 253 = .ok (.iload_n 2, 1) := by decide +kernel
theorem dX13_reaches_254 : decode cX13_reaches 254 = .ok (.invokevirtual 199, 3) := by decide +kernel
theorem dX13_reaches_257 : decode cX13_reaches 257 = .ok (.iadd, 1) := by decide +kernel
theorem dX13_reaches_258 : decode cX13_reaches 258 = .ok (.iastore, 1) := by decide +kernel
theorem dX13_reaches_259 : decode cX13_reaches 259 = .ok (.iconst 1, 1) := by decide +kernel
theorem dX13_reaches_260 : decode cX13_reaches 260 = .ok (.istore_n 3, 1) := by decide +kernel
theorem dX13_reaches_261 : decode cX13_reaches 261 = .ok (.iinc 4 1, 3) := by decide +kernel
theorem dX13_reaches_264 : decode cX13_reaches 264 = .ok (.goto (-222), 3) := by decide +kernel
theorem dX13_reaches_267 : decode cX13_reaches 267 = .ok (.goto (-234), 3) := by decide +kernel
theorem dX13_reaches_270 : decode cX13_reaches 270 = .ok (.return_, 1) := by decide +kernel
theorem dX13_way_0 : decode cX13_way 0 = .ok (.aload_n 0, 1) := by decide +kernel
theorem dX13_way_1 : decode cX13_way 1 = .ok (.iload_n 1, 1) := by decide +kernel
theorem dX13_way_2 : decode cX13_way 2 = .ok (.invokevirtual 129, 3) := by decide +kernel
theorem dX13_way_5 : decode cX13_way 5 = .ok (.istore 5, 2) := by decide +kernel
theorem dX13_way_7 : decode cX13_way 7 = .ok (.iload 5, 2) := by decide +kernel
theorem dX13_way_9 : decode cX13_way 9 = .ok (.ifCond .ge 9, 3) := by decide +kernel
theorem dX13_way_12 : decode cX13_way 12 = .ok (.aload_n 0, 1) := by decide +kernel
theorem dX13_way_13 : decode cX13_way 13 = .ok (.iconst 1, 1) := by decide +kernel
theorem dX13_way_14 : decode cX13_way 14 = .ok (.invokevirtual 88, 3) := by decide +kernel
theorem dX13_way_17 : decode cX13_way 17 = .ok (.ireturn, 1) := by decide +kernel
theorem dX13_way_18 : decode cX13_way 18 = .ok (.iload_n 2, 1) := by decide +kernel
theorem dX13_way_19 : decode cX13_way 19 = .ok (.iload_n 3, 1) := by decide +kernel
theorem dX13_way_20 : decode cX13_way 20 = .ok (.invokestatic 84, 3) := by decide +kernel
theorem dX13_way_23 : decode cX13_way 23 = .ok (.ifCond .ne 9, 3) := by decide +kernel
theorem dX13_way_26 : decode cX13_way 26 = .ok (.aload_n 0, 1) := by decide +kernel
theorem dX13_way_27 : decode cX13_way 27 = .ok (.iconst 2, 1) := by decide +kernel
theorem dX13_way_28 : decode cX13_way 28 = .ok (.invokevirtual 88, 3) := by decide +kernel
theorem dX13_way_31 : decode cX13_way 31 = .ok (.ireturn, 1) := by decide +kernel
theorem dX13_way_32 : decode cX13_way 32 = .ok (.aload_n 0, 1) := by decide +kernel
theorem dX13_way_33 : decode cX13_way 33 = .ok (.iconst 0, 1) := by decide +kernel
theorem dX13_way_34 : decode cX13_way 34 = .ok (.putfield 53, 3) := by decide +kernel
theorem dX13_way_37 : decode cX13_way 37 = .ok (.aload_n 0, 1) := by decide +kernel
theorem dX13_way_38 : decode cX13_way 38 = .ok (.aload_n 0, 1) := by decide +kernel
theorem dX13_way_39 : decode cX13_way 39 = .ok (.iload 5, 2) := by decide +kernel
theorem dX13_way_41 : decode cX13_way 41 = .ok (.invokevirtual 81, 3) := by decide +kernel
theorem dX13_way_44 : decode cX13_way 44 = .ok (.iload 4, 2) := by decide +kernel
theorem dX13_way_46 : decode cX13_way 46 = .ok (.invokevirtual 202, 3) := by decide +kernel
theorem dX13_way_49 : decode cX13_way 49 = .ok (.aload_n 0, 1) := by decide +kernel
theorem dX13_way_50 : decode cX13_way 50 = .ok (.getfield 29, 3) := by decide +kernel
theorem dX13_way_53 : decode cX13_way 53 = .ok (.iload_n 2, 1) := by decide +kernel
theorem dX13_way_54 : decode cX13_way 54 = .ok (.iload_n 3, 1) := by decide +kernel
theorem dX13_way_55 : decode cX13_way 55 = .ok (.invokestatic 78, 3) := by decide +kernel
theorem dX13_way_58 : decode cX13_way 58 = .ok (.iaload, 1) := by decide +kernel
theorem dX13_way_59 : decode cX13_way 59 = .ok (.istore 6, 2) := by decide +kernel
theorem dX13_way_61 : decode cX13_way 61 = .ok (.iload 6, 2) := by decide +kernel
theorem dX13_way_63 : decode cX13_way 63 = .ok (.ldc 198, 2) := by decide +kernel
theorem dX13_way_65 : decode cX13_way 65 = .ok (.if_icmp .ne 11, 3) := by decide +kernel
theorem dX13_way_68 : decode cX13_way 68 = .ok (.aload_n 0, 1) := by decide +kernel
theorem dX13_way_69 : decode cX13_way 69 = .ok (.iconst 1, 1) := by decide +kernel
theorem dX13_way_70 : decode cX13_way 70 = .ok (.invokevirtual 88, 3) := by decide +kernel
theorem dX13_way_73 : decode cX13_way 73 = .ok (.goto 5, 3) := by decide +kernel
theorem dX13_way_76 : decode cX13_way 76 = .ok (.iload 6, 2) := by decide +kernel
theorem dX13_way_78 : decode cX13_way 78 = .ok (.ireturn, 1) := by decide +kernel
theorem dX13_wayLength_0 : decode cX13_wayLength 0 = .ok (.aload_n 0, 1) := by decide +kernel
theorem dX13_wayLength_1 : decode cX13_wayLength 1 = .ok (.iload_n 1, 1) := by decide +kernel
theorem dX13_wayLength_2 : decode cX13_wayLength 2 = .ok (.iload_n 2, 1) := by decide +kernel
theorem dX13_wayLength_3 : decode cX13_wayLength 3 = .ok (.iload_n 3, 1) := by decide +kernel
theorem dX13_wayLength_4 : decode cX13_wayLength 4 = .ok (.iconst 0, 1) := by decide +kernel
theorem dX13_wayLength_5 : decode cX13_wayLength 5 = .ok (.invokevirtual 206, 3) := by decide +kernel
theorem dX13_wayLength_8 : decode cX13_wayLength 8 = .ok (.ireturn, 1) := by decide +kernel
theorem dX13_wayLengthByRounds_0 : decode cX13_wayLengthByRounds 0 = .ok (.aload_n 0, 1) := by decide +kernel
theorem dX13_wayLengthByRounds_1 : decode cX13_wayLengthByRounds 1 = .ok (.iload_n 1, 1) := by decide +kernel
theorem dX13_wayLengthByRounds_2 : decode cX13_wayLengthByRounds 2 = .ok (.iload_n 2, 1) := by decide +kernel
theorem dX13_wayLengthByRounds_3 : decode cX13_wayLengthByRounds 3 = .ok (.iload_n 3, 1) := by decide +kernel
theorem dX13_wayLengthByRounds_4 : decode cX13_wayLengthByRounds 4 = .ok (.iconst 0, 1) := by decide +kernel
theorem dX13_wayLengthByRounds_5 : decode cX13_wayLengthByRounds 5 = .ok (.invokevirtual 206, 3) := by decide +kernel
theorem dX13_wayLengthByRounds_8 : decode cX13_wayLengthByRounds 8 = .ok (.ireturn, 1) := by decide +kernel
theorem dX13_wayCost_0 : decode cX13_wayCost 0 = .ok (.aload_n 0, 1) := by decide +kernel
theorem dX13_wayCost_1 : decode cX13_wayCost 1 = .ok (.iload_n 1, 1) := by decide +kernel
theorem dX13_wayCost_2 : decode cX13_wayCost 2 = .ok (.iload_n 2, 1) := by decide +kernel
theorem dX13_wayCost_3 : decode cX13_wayCost 3 = .ok (.iload_n 3, 1) := by decide +kernel
theorem dX13_wayCost_4 : decode cX13_wayCost 4 = .ok (.iconst 1, 1) := by decide +kernel
theorem dX13_wayCost_5 : decode cX13_wayCost 5 = .ok (.invokevirtual 206, 3) := by decide +kernel
theorem dX13_wayCost_8 : decode cX13_wayCost 8 = .ok (.ireturn, 1) := by decide +kernel
theorem dX13_wayCostByRounds_0 : decode cX13_wayCostByRounds 0 = .ok (.aload_n 0, 1) := by decide +kernel
theorem dX13_wayCostByRounds_1 : decode cX13_wayCostByRounds 1 = .ok (.iload_n 1, 1) := by decide +kernel
theorem dX13_wayCostByRounds_2 : decode cX13_wayCostByRounds 2 = .ok (.iload_n 2, 1) := by decide +kernel
theorem dX13_wayCostByRounds_3 : decode cX13_wayCostByRounds 3 = .ok (.iload_n 3, 1) := by decide +kernel
theorem dX13_wayCostByRounds_4 : decode cX13_wayCostByRounds 4 = .ok (.iconst 1, 1) := by decide +kernel
theorem dX13_wayCostByRounds_5 : decode cX13_wayCostByRounds 5 = .ok (.invokevirtual 206, 3) := by decide +kernel
theorem dX13_wayCostByRounds_8 : decode cX13_wayCostByRounds 8 = .ok (.ireturn, 1) := by decide +kernel
theorem dX13_breakingEffort_0 : decode cX13_breakingEffort 0 = .ok (.aload_n 0, 1) := by decide +kernel
theorem dX13_breakingEffort_1 : decode cX13_breakingEffort 1 = .ok (.iload_n 1, 1) := by decide +kernel
theorem dX13_breakingEffort_2 : decode cX13_breakingEffort 2 = .ok (.iload_n 2, 1) := by decide +kernel
theorem dX13_breakingEffort_3 : decode cX13_breakingEffort 3 = .ok (.iload_n 3, 1) := by decide +kernel
theorem dX13_breakingEffort_4 : decode cX13_breakingEffort 4 = .ok (.iconst 2, 1) := by decide +kernel
theorem dX13_breakingEffort_5 : decode cX13_breakingEffort 5 = .ok (.invokevirtual 206, 3) := by decide +kernel
theorem dX13_breakingEffort_8 : decode cX13_breakingEffort 8 = .ok (.ireturn, 1) := by decide +kernel
theorem dX13_nearer_0 : decode cX13_nearer 0 = .ok (.aload_n 0, 1) := by decide +kernel
theorem dX13_nearer_1 : decode cX13_nearer 1 = .ok (.getfield 174, 3) := by decide +kernel
theorem dX13_nearer_4 : decode cX13_nearer 4 = .ok (.istore_n 1, 1) := by decide +kernel
theorem dX13_nearer_5 : decode cX13_nearer 5 = .ok (.aload_n 0, 1) := by decide +kernel
theorem dX13_nearer_6 : decode cX13_nearer 6 = .ok (.getfield 177, 3) := by decide +kernel
theorem dX13_nearer_9 : decode cX13_nearer 9 = .ok (.istore_n 2, 1) := by decide +kernel
theorem dX13_nearer_10 : decode cX13_nearer 10 = .ok (.aload_n 0, 1) := by decide +kernel
theorem dX13_nearer_11 : decode cX13_nearer 11 = .ok (.getfield 29, 3) := by decide +kernel
theorem dX13_nearer_14 : decode cX13_nearer 14 = .ok (.iload_n 1, 1) := by decide +kernel
theorem dX13_nearer_15 : decode cX13_nearer 15 = .ok (.iload_n 2, 1) := by decide +kernel
theorem dX13_nearer_16 : decode cX13_nearer 16 = .ok (.invokestatic 78, 3) := by decide +kernel
theorem dX13_nearer_19 : decode cX13_nearer 19 = .ok (.iaload, 1) := by decide +kernel
theorem dX13_nearer_20 : decode cX13_nearer 20 = .ok (.istore_n 3, 1) := by decide +kernel
theorem dX13_nearer_21 : decode cX13_nearer 21 = .ok (.iconst 0, 1) := by decide +kernel
theorem dX13_nearer_22 : decode cX13_nearer 22 = .ok (.istore 4, 2) := by decide +kernel
theorem dX13_nearer_24 : decode cX13_nearer 24 = .ok (.iload 4, 2) := by decide +kernel
theorem dX13_nearer_26 : decode cX13_nearer 26 = .ok (.iconst 4, 1) := by decide +kernel
theorem dX13_nearer_27 : decode cX13_nearer 27 = .ok (.if_icmp .ge 53, 3) := by decide +kernel
theorem dX13_nearer_30 : decode cX13_nearer 30 = .ok (.aload_n 0, 1) := by decide +kernel
theorem dX13_nearer_31 : decode cX13_nearer 31 = .ok (.iload_n 1, 1) := by decide +kernel
theorem dX13_nearer_32 : decode cX13_nearer 32 = .ok (.putfield 174, 3) := by decide +kernel
theorem dX13_nearer_35 : decode cX13_nearer 35 = .ok (.aload_n 0, 1) := by decide +kernel
theorem dX13_nearer_36 : decode cX13_nearer 36 = .ok (.iload_n 2, 1) := by decide +kernel
theorem dX13_nearer_37 : decode cX13_nearer 37 = .ok (.putfield 177, 3) := by decide +kernel
theorem dX13_nearer_40 : decode cX13_nearer 40 = .ok (.aload_n 0, 1) := by decide +kernel
theorem dX13_nearer_41 : decode cX13_nearer 41 = .ok (.iload 4, 2) := by decide +kernel
theorem dX13_nearer_43 : decode cX13_nearer 43 = .ok (.invokevirtual 183, 3) := by decide +kernel
theorem dX13_nearer_46 : decode cX13_nearer 46 = .ok (.ifCond .eq 28, 3) := by decide +kernel
theorem dX13_nearer_49 : decode cX13_nearer 49 = .ok (.aload_n 0, 1) := by decide +kernel
theorem dX13_nearer_50 : decode cX13_nearer 50 = .ok (.getfield 29, 3) := by decide +kernel
theorem dX13_nearer_53 : decode cX13_nearer 53 = .ok (.aload_n 0, 1) := by decide +kernel
theorem dX13_nearer_54 : decode cX13_nearer 54 = .ok (.getfield 174, 3) := by decide +kernel
theorem dX13_nearer_57 : decode cX13_nearer 57 = .ok (.aload_n 0, 1) := by decide +kernel
theorem dX13_nearer_58 : decode cX13_nearer 58 = .ok (.getfield 177, 3) := by decide +kernel
theorem dX13_nearer_61 : decode cX13_nearer 61 = .ok (.invokestatic 78, 3) := by decide +kernel
theorem dX13_nearer_64 : decode cX13_nearer 64 = .ok (.iaload, 1) := by decide +kernel
theorem dX13_nearer_65 : decode cX13_nearer 65 = .ok (.iload_n 3, 1) := by decide +kernel
theorem dX13_nearer_66 : decode cX13_nearer 66 = .ok (.iconst 1, 1) := by decide +kernel
theorem dX13_nearer_67 : decode cX13_nearer 67 = .ok (.isub, 1) := by decide +kernel
theorem dX13_nearer_68 : decode cX13_nearer 68 = .ok (.if_icmp .ne 6, 3) := by decide +kernel
theorem dX13_nearer_71 : decode cX13_nearer 71 = .ok (.iload 4, 2) := by decide +kernel
theorem dX13_nearer_73 : decode cX13_nearer 73 = .ok (.ireturn, 1) := by decide +kernel
theorem dX13_nearer_74 : decode cX13_nearer 74 = .ok (.iinc 4 1, 3) := by decide +kernel
theorem dX13_nearer_77 : decode cX13_nearer 77 = .ok (.goto (-53), 3) := by decide +kernel
theorem dX13_nearer_80 : decode cX13_nearer 80 = .ok (.iconst (-1), 1) := by decide +kernel
theorem dX13_nearer_81 : decode cX13_nearer 81 = .ok (.ireturn, 1) := by decide +kernel
theorem dX13_plans_0 : decode cX13_plans 0 = .ok (.iload_n 1, 1) := by decide +kernel
theorem dX13_plans_1 : decode cX13_plans 1 = .ok (.ifCond .ge 9, 3) := by decide +kernel
theorem dX13_plans_4 : decode cX13_plans 4 = .ok (.aload_n 0, 1) := by decide +kernel
theorem dX13_plans_5 : decode cX13_plans 5 = .ok (.iconst 1, 1) := by decide +kernel
theorem dX13_plans_6 : decode cX13_plans 6 = .ok (.invokevirtual 88, 3) := by decide +kernel
theorem dX13_plans_9 : decode cX13_plans 9 = .ok (.ireturn, 1) := by decide +kernel
theorem dX13_plans_10 : decode cX13_plans 10 = .ok (.iload_n 2, 1) := by decide +kernel
theorem dX13_plans_11 : decode cX13_plans 11 = .ok (.iload_n 3, 1) := by decide +kernel
theorem dX13_plans_12 : decode cX13_plans 12 = .ok (.invokestatic 84, 3) := by decide +kernel
theorem dX13_plans_15 : decode cX13_plans 15 = .ok (.ifCond .ne 9, 3) := by decide +kernel
theorem dX13_plans_18 : decode cX13_plans 18 = .ok (.aload_n 0, 1) := by decide +kernel
theorem dX13_plans_19 : decode cX13_plans 19 = .ok (.iconst 2, 1) := by decide +kernel
theorem dX13_plans_20 : decode cX13_plans 20 = .ok (.invokevirtual 88, 3) := by decide +kernel
theorem dX13_plans_23 : decode cX13_plans 23 = .ok (.ireturn, 1) := by decide +kernel
theorem dX13_plans_24 : decode cX13_plans 24 = .ok (.aload_n 0, 1) := by decide +kernel
theorem dX13_plans_25 : decode cX13_plans 25 = .ok (.aload_n 0, 1) := by decide +kernel
theorem dX13_plans_26 : decode cX13_plans 26 = .ok (.iload_n 1, 1) := by decide +kernel
theorem dX13_plans_27 : decode cX13_plans 27 = .ok (.invokevirtual 81, 3) := by decide +kernel
theorem dX13_plans_30 : decode cX13_plans 30 = .ok (.iconst 0, 1) := by decide +kernel
theorem dX13_plans_31 : decode cX13_plans 31 = .ok (.invokevirtual 202, 3) := by decide +kernel
theorem dX13_plans_34 : decode cX13_plans 34 = .ok (.aload_n 0, 1) := by decide +kernel
theorem dX13_plans_35 : decode cX13_plans 35 = .ok (.getfield 29, 3) := by decide +kernel
theorem dX13_plans_38 : decode cX13_plans 38 = .ok (.iload_n 2, 1) := by decide +kernel
theorem dX13_plans_39 : decode cX13_plans 39 = .ok (.iload_n 3, 1) := by decide +kernel
theorem dX13_plans_40 : decode cX13_plans 40 = .ok (.invokestatic 78, 3) := by decide +kernel
theorem dX13_plans_43 : decode cX13_plans 43 = .ok (.iaload, 1) := by decide +kernel
theorem dX13_plans_44 : decode cX13_plans 44 = .ok (.istore 5, 2) := by decide +kernel
theorem dX13_plans_46 : decode cX13_plans 46 = .ok (.iload 5, 2) := by decide +kernel
theorem dX13_plans_48 : decode cX13_plans 48 = .ok (.ldc 198, 2) := by decide +kernel
theorem dX13_plans_50 : decode cX13_plans 50 = .ok (.if_icmp .ne 9, 3) := by decide +kernel
theorem dX13_plans_53 : decode cX13_plans 53 = .ok (.aload_n 0, 1) := by decide +kernel
theorem dX13_plans_54 : decode cX13_plans 54 = .ok (.iconst 1, 1) := by decide +kernel
theorem dX13_plans_55 : decode cX13_plans 55 = .ok (.invokevirtual 88, 3) := by decide +kernel
theorem dX13_plans_58 : decode cX13_plans 58 = .ok (.ireturn, 1) := by decide +kernel
theorem dX13_plans_59 : decode cX13_plans 59 = .ok (.iload 4, 2) := by decide +kernel
theorem dX13_plans_61 : decode cX13_plans 61 = .ok (.invokestatic 138, 3) := by decide +kernel
theorem dX13_plans_64 : decode cX13_plans 64 = .ok (.ifCond .ne 9, 3) := by decide +kernel
theorem dX13_plans_67 : decode cX13_plans 67 = .ok (.aload_n 0, 1) := by decide +kernel
theorem dX13_plans_68 : decode cX13_plans 68 = .ok (.iconst 2, 1) := by decide +kernel
theorem dX13_plans_69 : decode cX13_plans 69 = .ok (.invokevirtual 88, 3) := by decide +kernel
theorem dX13_plans_72 : decode cX13_plans 72 = .ok (.ireturn, 1) := by decide +kernel
theorem dX13_plans_73 : decode cX13_plans 73 = .ok (.iload 5, 2) := by decide +kernel
theorem dX13_plans_75 : decode cX13_plans 75 = .ok (.bipush 20, 2) := by decide +kernel
theorem dX13_plans_77 : decode cX13_plans 77 = .ok (.if_icmp .le 9, 3) := by decide +kernel
theorem dX13_plans_80 : decode cX13_plans 80 = .ok (.aload_n 0, 1) := by decide +kernel
theorem dX13_plans_81 : decode cX13_plans 81 = .ok (.iconst 3, 1) := by decide +kernel
theorem dX13_plans_82 : decode cX13_plans 82 = .ok (.invokevirtual 88, 3) := by decide +kernel
theorem dX13_plans_85 : decode cX13_plans 85 = .ok (.ireturn, 1) := by decide +kernel
theorem dX13_plans_86 : decode cX13_plans 86 = .ok (.aload_n 0, 1) := by decide +kernel
theorem dX13_plans_87 : decode cX13_plans 87 = .ok (.iload_n 2, 1) := by decide +kernel
theorem dX13_plans_88 : decode cX13_plans 88 = .ok (.iload_n 3, 1) := by decide +kernel
theorem dX13_plans_89 : decode cX13_plans 89 = .ok (.invokestatic 78, 3) := by decide +kernel
theorem dX13_plans_92 : decode cX13_plans 92 = .ok (.iconst 0, 1) := by decide +kernel
theorem dX13_plans_93 : decode cX13_plans 93 = .ok (.invokevirtual 202, 3) := by decide +kernel
theorem dX13_plans_96 : decode cX13_plans 96 = .ok (.aload_n 0, 1) := by decide +kernel
theorem dX13_plans_97 : decode cX13_plans 97 = .ok (.aload_n 0, 1) := by decide +kernel
theorem dX13_plans_98 : decode cX13_plans 98 = .ok (.getfield 16, 3) := by decide +kernel
theorem dX13_plans_101 : decode cX13_plans 101 = .ok (.iload_n 1, 1) := by decide +kernel
theorem dX13_plans_102 : decode cX13_plans 102 = .ok (.iconst 1, 1) := by decide +kernel
theorem dX13_plans_103 : decode cX13_plans 103 = .ok (.invokestatic 74, 3) := by decide +kernel
theorem dX13_plans_106 : decode cX13_plans 106 = .ok (.iaload, 1) := by decide +kernel
theorem dX13_plans_107 : decode cX13_plans 107 = .ok (.putfield 174, 3) := by decide +kernel
theorem dX13_plans_110 : decode cX13_plans 110 = .ok (.aload_n 0, 1) := by decide +kernel
theorem dX13_plans_111 : decode cX13_plans 111 = .ok (.aload_n 0, 1) := by decide +kernel
theorem dX13_plans_112 : decode cX13_plans 112 = .ok (.getfield 16, 3) := by decide +kernel
theorem dX13_plans_115 : decode cX13_plans 115 = .ok (.iload_n 1, 1) := by decide +kernel
theorem dX13_plans_116 : decode cX13_plans 116 = .ok (.iconst 2, 1) := by decide +kernel
theorem dX13_plans_117 : decode cX13_plans 117 = .ok (.invokestatic 74, 3) := by decide +kernel
theorem dX13_plans_120 : decode cX13_plans 120 = .ok (.iaload, 1) := by decide +kernel
theorem dX13_plans_121 : decode cX13_plans 121 = .ok (.putfield 177, 3) := by decide +kernel
theorem dX13_plans_124 : decode cX13_plans 124 = .ok (.iconst 0, 1) := by decide +kernel
theorem dX13_plans_125 : decode cX13_plans 125 = .ok (.istore 6, 2) := by decide +kernel
theorem dX13_plans_127 : decode cX13_plans 127 = .ok (.iload 6, 2) := by decide +kernel
theorem dX13_plans_129 : decode cX13_plans 129 = .ok (.iload 5, 2) := by decide +kernel
theorem dX13_plans_131 : decode cX13_plans 131 = .ok (.if_icmp .ge 20, 3) := by decide +kernel
theorem dX13_plans_134 : decode cX13_plans 134 = .ok (.aload_n 0, 1) := by decide +kernel
theorem dX13_plans_135 : decode cX13_plans 135 = .ok (.getfield 32, 3) := by decide +kernel
theorem dX13_plans_138 : decode cX13_plans 138 = .ok (.iload 6, 2) := by decide +kernel
theorem dX13_plans_140 : decode cX13_plans 140 = .ok (.aload_n 0, 1) := by decide +kernel
theorem dX13_plans_141 : decode cX13_plans 141 = .ok (.invokevirtual 210, 3) := by decide +kernel
theorem dX13_plans_144 : decode cX13_plans 144 = .ok (.iastore, 1) := by decide +kernel
theorem dX13_plans_145 : decode cX13_plans 145 = .ok (.iinc 6 1, 3) := by decide +kernel
theorem dX13_plans_148 : decode cX13_plans 148 = .ok (.goto (-21), 3) := by decide +kernel
theorem dX13_plans_151 : decode cX13_plans 151 = .ok (.aload_n 0, 1) := by decide +kernel
theorem dX13_plans_152 : decode cX13_plans 152 = .ok (.iload 4, 2) := by decide +kernel
theorem dX13_plans_154 : decode cX13_plans 154 = .ok (.iload 5, 2) := by decide +kernel
theorem dX13_plans_156 : decode cX13_plans 156 = .ok (.invokevirtual 156, 3) := by decide +kernel
theorem dX13_plans_159 : decode cX13_plans 159 = .ok (.ireturn, 1) := by decide +kernel
theorem dX13_planWay_0 : decode cX13_planWay 0 = .ok (.aload_n 0, 1) := by decide +kernel
theorem dX13_planWay_1 : decode cX13_planWay 1 = .ok (.invokevirtual 94, 3) := by decide +kernel
theorem dX13_planWay_4 : decode cX13_planWay 4 = .ok (.aload_n 0, 1) := by decide +kernel
theorem dX13_planWay_5 : decode cX13_planWay 5 = .ok (.aload_n 0, 1) := by decide +kernel
theorem dX13_planWay_6 : decode cX13_planWay 6 = .ok (.aload_n 0, 1) := by decide +kernel
theorem dX13_planWay_7 : decode cX13_planWay 7 = .ok (.iload_n 1, 1) := by decide +kernel
theorem dX13_planWay_8 : decode cX13_planWay 8 = .ok (.invokevirtual 129, 3) := by decide +kernel
theorem dX13_planWay_11 : decode cX13_planWay 11 = .ok (.iload_n 2, 1) := by decide +kernel
theorem dX13_planWay_12 : decode cX13_planWay 12 = .ok (.iload_n 3, 1) := by decide +kernel
theorem dX13_planWay_13 : decode cX13_planWay 13 = .ok (.iload 4, 2) := by decide +kernel
theorem dX13_planWay_15 : decode cX13_planWay 15 = .ok (.invokevirtual 213, 3) := by decide +kernel
theorem dX13_planWay_18 : decode cX13_planWay 18 = .ok (.invokevirtual 100, 3) := by decide +kernel
theorem dX13_planWay_21 : decode cX13_planWay 21 = .ok (.ireturn, 1) := by decide +kernel
theorem dX13_lands_0 : decode cX13_lands 0 = .ok (.iload_n 1, 1) := by decide +kernel
theorem dX13_lands_1 : decode cX13_lands 1 = .ok (.iload_n 2, 1) := by decide +kernel
theorem dX13_lands_2 : decode cX13_lands 2 = .ok (.invokestatic 84, 3) := by decide +kernel
theorem dX13_lands_5 : decode cX13_lands 5 = .ok (.ifCond .ne 9, 3) := by decide +kernel
theorem dX13_lands_8 : decode cX13_lands 8 = .ok (.aload_n 0, 1) := by decide +kernel
theorem dX13_lands_9 : decode cX13_lands 9 = .ok (.iconst 1, 1) := by decide +kernel
theorem dX13_lands_10 : decode cX13_lands 10 = .ok (.invokevirtual 88, 3) := by decide +kernel
theorem dX13_lands_13 : decode cX13_lands 13 = .ok (.ireturn, 1) := by decide +kernel
theorem dX13_lands_14 : decode cX13_lands 14 = .ok (.aload_n 0, 1) := by decide +kernel
theorem dX13_lands_15 : decode cX13_lands 15 = .ok (.getfield 16, 3) := by decide +kernel
theorem dX13_lands_18 : decode cX13_lands 18 = .ok (.iconst 4, 1) := by decide +kernel
theorem dX13_lands_19 : decode cX13_lands 19 = .ok (.iaload, 1) := by decide +kernel
theorem dX13_lands_20 : decode cX13_lands 20 = .ok (.istore_n 3, 1) := by decide +kernel
theorem dX13_lands_21 : decode cX13_lands 21 = .ok (.iconst 0, 1) := by decide +kernel
theorem dX13_lands_22 : decode cX13_lands 22 = .ok (.istore 4, 2) := by decide +kernel
theorem dX13_lands_24 : decode cX13_lands 24 = .ok (.iload 4, 2) := by decide +kernel
theorem dX13_lands_26 : decode cX13_lands 26 = .ok (.iload_n 3, 1) := by decide +kernel
theorem dX13_lands_27 : decode cX13_lands 27 = .ok (.if_icmp .ge 34, 3) := by decide +kernel
theorem dX13_lands_30 : decode cX13_lands 30 = .ok (.aload_n 0, 1) := by decide +kernel
theorem dX13_lands_31 : decode cX13_lands 31 = .ok (.getfield 16, 3) := by decide +kernel
theorem dX13_lands_34 : decode cX13_lands 34 = .ok (.sipush 230, 3) := by decide +kernel
theorem dX13_lands_37 : decode cX13_lands 37 = .ok (.iload 4, 2) := by decide +kernel
theorem dX13_lands_39 : decode cX13_lands 39 = .ok (.iadd, 1) := by decide +kernel
theorem dX13_lands_40 : decode cX13_lands 40 = .ok (.iaload, 1) := by decide +kernel
theorem dX13_lands_41 : decode cX13_lands 41 = .ok (.iload_n 1, 1) := by decide +kernel
theorem dX13_lands_42 : decode cX13_lands 42 = .ok (.iload_n 2, 1) := by decide +kernel
theorem dX13_lands_43 : decode cX13_lands 43 = .ok (.invokestatic 78, 3) := by decide +kernel
theorem dX13_lands_46 : decode cX13_lands 46 = .ok (.if_icmp .ne 9, 3) := by decide +kernel
theorem dX13_lands_49 : decode cX13_lands 49 = .ok (.aload_n 0, 1) := by decide +kernel
theorem dX13_lands_50 : decode cX13_lands 50 = .ok (.iconst 2, 1) := by decide +kernel
theorem dX13_lands_51 : decode cX13_lands 51 = .ok (.invokevirtual 88, 3) := by decide +kernel
theorem dX13_lands_54 : decode cX13_lands 54 = .ok (.ireturn, 1) := by decide +kernel
theorem dX13_lands_55 : decode cX13_lands 55 = .ok (.iinc 4 1, 3) := by decide +kernel
theorem dX13_lands_58 : decode cX13_lands 58 = .ok (.goto (-34), 3) := by decide +kernel
theorem dX13_lands_61 : decode cX13_lands 61 = .ok (.iload_n 3, 1) := by decide +kernel
theorem dX13_lands_62 : decode cX13_lands 62 = .ok (.bipush 8, 2) := by decide +kernel
theorem dX13_lands_64 : decode cX13_lands 64 = .ok (.if_icmp .ne 9, 3) := by decide +kernel
theorem dX13_lands_67 : decode cX13_lands 67 = .ok (.aload_n 0, 1) := by decide +kernel
theorem dX13_lands_68 : decode cX13_lands 68 = .ok (.iconst 2, 1) := by decide +kernel
theorem dX13_lands_69 : decode cX13_lands 69 = .ok (.invokevirtual 88, 3) := by decide +kernel
theorem dX13_lands_72 : decode cX13_lands 72 = .ok (.ireturn, 1) := by decide +kernel
theorem dX13_lands_73 : decode cX13_lands 73 = .ok (.aload_n 0, 1) := by decide +kernel
theorem dX13_lands_74 : decode cX13_lands 74 = .ok (.getfield 16, 3) := by decide +kernel
theorem dX13_lands_77 : decode cX13_lands 77 = .ok (.sipush 230, 3) := by decide +kernel
theorem dX13_lands_80 : decode cX13_lands 80 = .ok (.iload_n 3, 1) := by decide +kernel
theorem dX13_lands_81 : decode cX13_lands 81 = .ok (.iadd, 1) := by decide +kernel
theorem dX13_lands_82 : decode cX13_lands 82 = .ok (.iload_n 1, 1) := by decide +kernel
theorem dX13_lands_83 : decode cX13_lands 83 = .ok (.iload_n 2, 1) := by decide +kernel
theorem dX13_lands_84 : decode cX13_lands 84 = .ok (.invokestatic 78, 3) := by decide +kernel
theorem dX13_lands_87 : decode cX13_lands 87 = .ok (.iastore, 1) := by decide +kernel
theorem dX13_lands_88 : decode cX13_lands 88 = .ok (.aload_n 0, 1) := by decide +kernel
theorem dX13_lands_89 : decode cX13_lands 89 = .ok (.getfield 16, 3) := by decide +kernel
theorem dX13_lands_92 : decode cX13_lands 92 = .ok (.iconst 4, 1) := by decide +kernel
theorem dX13_lands_93 : decode cX13_lands 93 = .ok (.dup2, 1) := by decide +kernel
theorem dX13_lands_94 : decode cX13_lands 94 = .ok (.iaload, 1) := by decide +kernel
theorem dX13_lands_95 : decode cX13_lands 95 = .ok (.iconst 1, 1) := by decide +kernel
theorem dX13_lands_96 : decode cX13_lands 96 = .ok (.iadd, 1) := by decide +kernel
theorem dX13_lands_97 : decode cX13_lands 97 = .ok (.iastore, 1) := by decide +kernel
theorem dX13_lands_98 : decode cX13_lands 98 = .ok (.iload_n 3, 1) := by decide +kernel
theorem dX13_lands_99 : decode cX13_lands 99 = .ok (.ireturn, 1) := by decide +kernel
theorem dX13_addLanding_0 : decode cX13_addLanding 0 = .ok (.aload_n 0, 1) := by decide +kernel
theorem dX13_addLanding_1 : decode cX13_addLanding 1 = .ok (.invokevirtual 94, 3) := by decide +kernel
theorem dX13_addLanding_4 : decode cX13_addLanding 4 = .ok (.aload_n 0, 1) := by decide +kernel
theorem dX13_addLanding_5 : decode cX13_addLanding 5 = .ok (.aload_n 0, 1) := by decide +kernel
theorem dX13_addLanding_6 : decode cX13_addLanding 6 = .ok (.iload_n 1, 1) := by decide +kernel
theorem dX13_addLanding_7 : decode cX13_addLanding 7 = .ok (.iload_n 2, 1) := by decide +kernel
theorem dX13_addLanding_8 : decode cX13_addLanding 8 = .ok (.invokevirtual 216, 3) := by decide +kernel
theorem dX13_addLanding_11 : decode cX13_addLanding 11 = .ok (.invokevirtual 100, 3) := by decide +kernel
theorem dX13_addLanding_14 : decode cX13_addLanding 14 = .ok (.ireturn, 1) := by decide +kernel
theorem dX13_isLanding_0 : decode cX13_isLanding 0 = .ok (.iload_n 1, 1) := by decide +kernel
theorem dX13_isLanding_1 : decode cX13_isLanding 1 = .ok (.iconst 0, 1) := by decide +kernel
theorem dX13_isLanding_2 : decode cX13_isLanding 2 = .ok (.aload_n 0, 1) := by decide +kernel
theorem dX13_isLanding_3 : decode cX13_isLanding 3 = .ok (.getfield 16, 3) := by decide +kernel
theorem dX13_isLanding_6 : decode cX13_isLanding 6 = .ok (.iconst 4, 1) := by decide +kernel
theorem dX13_isLanding_7 : decode cX13_isLanding 7 = .ok (.iaload, 1) := by decide +kernel
theorem dX13_isLanding_8 : decode cX13_isLanding 8 = .ok (.iconst 1, 1) := by decide +kernel
theorem dX13_isLanding_9 : decode cX13_isLanding 9 = .ok (.isub, 1) := by decide +kernel
theorem dX13_isLanding_10 : decode cX13_isLanding 10 = .ok (.invokestatic 63, 3) := by decide +kernel
theorem dX13_isLanding_13 : decode cX13_isLanding 13 = .ok (.ireturn, 1) := by decide +kernel
theorem dX13_drops_0 : decode cX13_drops 0 = .ok (.aload_n 0, 1) := by decide +kernel
theorem dX13_drops_1 : decode cX13_drops 1 = .ok (.iload_n 1, 1) := by decide +kernel
theorem dX13_drops_2 : decode cX13_drops 2 = .ok (.invokevirtual 219, 3) := by decide +kernel
theorem dX13_drops_5 : decode cX13_drops 5 = .ok (.ifCond .ne 9, 3) := by decide +kernel
theorem dX13_drops_8 : decode cX13_drops 8 = .ok (.aload_n 0, 1) := by decide +kernel
theorem dX13_drops_9 : decode cX13_drops 9 = .ok (.iconst 1, 1) := by decide +kernel
theorem dX13_drops_10 : decode cX13_drops 10 = .ok (.invokevirtual 88, 3) := by decide +kernel
theorem dX13_drops_13 : decode cX13_drops 13 = .ok (.ireturn, 1) := by decide +kernel
theorem dX13_drops_14 : decode cX13_drops 14 = .ok (.aload_n 0, 1) := by decide +kernel
theorem dX13_drops_15 : decode cX13_drops 15 = .ok (.getfield 16, 3) := by decide +kernel
theorem dX13_drops_18 : decode cX13_drops 18 = .ok (.iconst 4, 1) := by decide +kernel
theorem dX13_drops_19 : decode cX13_drops 19 = .ok (.dup2, 1) := by decide +kernel
theorem dX13_drops_20 : decode cX13_drops 20 = .ok (.iaload, 1) := by decide +kernel
theorem dX13_drops_21 : decode cX13_drops 21 = .ok (.iconst 1, 1) := by decide +kernel
theorem dX13_drops_22 : decode cX13_drops 22 = .ok (.isub, 1) := by decide +kernel
theorem dX13_drops_23 : decode cX13_drops 23 = .ok (.iastore, 1) := by decide +kernel
theorem dX13_drops_24 : decode cX13_drops 24 = .ok (.iload_n 1, 1) := by decide +kernel
theorem dX13_drops_25 : decode cX13_drops 25 = .ok (.istore_n 2, 1) := by decide +kernel
theorem dX13_drops_26 : decode cX13_drops 26 = .ok (.iload_n 2, 1) := by decide +kernel
theorem dX13_drops_27 : decode cX13_drops 27 = .ok (.aload_n 0, 1) := by decide +kernel
theorem dX13_drops_28 : decode cX13_drops 28 = .ok (.getfield 16, 3) := by decide +kernel
theorem dX13_drops_31 : decode cX13_drops 31 = .ok (.iconst 4, 1) := by decide +kernel
theorem dX13_drops_32 : decode cX13_drops 32 = .ok (.iaload, 1) := by decide +kernel
theorem dX13_drops_33 : decode cX13_drops 33 = .ok (.if_icmp .ge 31, 3) := by decide +kernel
theorem dX13_drops_36 : decode cX13_drops 36 = .ok (.aload_n 0, 1) := by decide +kernel
theorem dX13_drops_37 : decode cX13_drops 37 = .ok (.getfield 16, 3) := by decide +kernel
theorem dX13_drops_40 : decode cX13_drops 40 = .ok (.sipush 230, 3) := by decide +kernel
theorem dX13_drops_43 : decode cX13_drops 43 = .ok (.iload_n 2, 1) := by decide +kernel
theorem dX13_drops_44 : decode cX13_drops 44 = .ok (.iadd, 1) := by decide +kernel
theorem dX13_drops_45 : decode cX13_drops 45 = .ok (.aload_n 0, 1) := by decide +kernel
theorem dX13_drops_46 : decode cX13_drops 46 = .ok (.getfield 16, 3) := by decide +kernel
theorem dX13_drops_49 : decode cX13_drops 49 = .ok (.sipush 230, 3) := by decide +kernel
theorem dX13_drops_52 : decode cX13_drops 52 = .ok (.iload_n 2, 1) := by decide +kernel
theorem dX13_drops_53 : decode cX13_drops 53 = .ok (.iadd, 1) := by decide +kernel
theorem dX13_drops_54 : decode cX13_drops 54 = .ok (.iconst 1, 1) := by decide +kernel
theorem dX13_drops_55 : decode cX13_drops 55 = .ok (.iadd, 1) := by decide +kernel
theorem dX13_drops_56 : decode cX13_drops 56 = .ok (.iaload, 1) := by decide +kernel
theorem dX13_drops_57 : decode cX13_drops 57 = .ok (.iastore, 1) := by decide +kernel
theorem dX13_drops_58 : decode cX13_drops 58 = .ok (.iinc 2 1, 3) := by decide +kernel
theorem dX13_drops_61 : decode cX13_drops 61 = .ok (.goto (-35), 3) := by decide +kernel
theorem dX13_drops_64 : decode cX13_drops 64 = .ok (.aload_n 0, 1) := by decide +kernel
theorem dX13_drops_65 : decode cX13_drops 65 = .ok (.getfield 16, 3) := by decide +kernel
theorem dX13_drops_68 : decode cX13_drops 68 = .ok (.sipush 230, 3) := by decide +kernel
theorem dX13_drops_71 : decode cX13_drops 71 = .ok (.aload_n 0, 1) := by decide +kernel
theorem dX13_drops_72 : decode cX13_drops 72 = .ok (.getfield 16, 3) := by decide +kernel
theorem dX13_drops_75 : decode cX13_drops 75 = .ok (.iconst 4, 1) := by decide +kernel
theorem dX13_drops_76 : decode cX13_drops 76 = .ok (.iaload, 1) := by decide +kernel
theorem dX13_drops_77 : decode cX13_drops 77 = .ok (.iadd, 1) := by decide +kernel
theorem dX13_drops_78 : decode cX13_drops 78 = .ok (.iconst 0, 1) := by decide +kernel
theorem dX13_drops_79 : decode cX13_drops 79 = .ok (.iastore, 1) := by decide +kernel
theorem dX13_drops_80 : decode cX13_drops 80 = .ok (.aload_n 0, 1) := by decide +kernel
theorem dX13_drops_81 : decode cX13_drops 81 = .ok (.getfield 16, 3) := by decide +kernel
theorem dX13_drops_84 : decode cX13_drops 84 = .ok (.iconst 4, 1) := by decide +kernel
theorem dX13_drops_85 : decode cX13_drops 85 = .ok (.iaload, 1) := by decide +kernel
theorem dX13_drops_86 : decode cX13_drops 86 = .ok (.ireturn, 1) := by decide +kernel
theorem dX13_removeLanding_0 : decode cX13_removeLanding 0 = .ok (.aload_n 0, 1) := by decide +kernel
theorem dX13_removeLanding_1 : decode cX13_removeLanding 1 = .ok (.invokevirtual 94, 3) := by decide +kernel
theorem dX13_removeLanding_4 : decode cX13_removeLanding 4 = .ok (.aload_n 0, 1) := by decide +kernel
theorem dX13_removeLanding_5 : decode cX13_removeLanding 5 = .ok (.aload_n 0, 1) := by decide +kernel
theorem dX13_removeLanding_6 : decode cX13_removeLanding 6 = .ok (.iload_n 1, 1) := by decide +kernel
theorem dX13_removeLanding_7 : decode cX13_removeLanding 7 = .ok (.invokevirtual 222, 3) := by decide +kernel
theorem dX13_removeLanding_10 : decode cX13_removeLanding 10 = .ok (.invokevirtual 100, 3) := by decide +kernel
theorem dX13_removeLanding_13 : decode cX13_removeLanding 13 = .ok (.ireturn, 1) := by decide +kernel
theorem dX13_landingCount_0 : decode cX13_landingCount 0 = .ok (.aload_n 0, 1) := by decide +kernel
theorem dX13_landingCount_1 : decode cX13_landingCount 1 = .ok (.iconst 4, 1) := by decide +kernel
theorem dX13_landingCount_2 : decode cX13_landingCount 2 = .ok (.invokevirtual 117, 3) := by decide +kernel
theorem dX13_landingCount_5 : decode cX13_landingCount 5 = .ok (.ireturn, 1) := by decide +kernel
theorem dX13_apart_0 : decode cX13_apart 0 = .ok (.iload_n 0, 1) := by decide +kernel
theorem dX13_apart_1 : decode cX13_apart 1 = .ok (.bipush 9, 2) := by decide +kernel
theorem dX13_apart_3 : decode cX13_apart 3 = .ok (.irem, 1) := by decide +kernel
theorem dX13_apart_4 : decode cX13_apart 4 = .ok (.iload_n 1, 1) := by decide +kernel
theorem dX13_apart_5 : decode cX13_apart 5 = .ok (.bipush 9, 2) := by decide +kernel
theorem dX13_apart_7 : decode cX13_apart 7 = .ok (.irem, 1) := by decide +kernel
theorem dX13_apart_8 : decode cX13_apart 8 = .ok (.isub, 1) := by decide +kernel
theorem dX13_apart_9 : decode cX13_apart 9 = .ok (.istore_n 2, 1) := by decide +kernel
theorem dX13_apart_10 : decode cX13_apart 10 = .ok (.iload_n 0, 1) := by decide +kernel
theorem dX13_apart_11 : decode cX13_apart 11 = .ok (.bipush 9, 2) := by decide +kernel
theorem dX13_apart_13 : decode cX13_apart 13 = .ok (.idiv, 1) := by decide +kernel
theorem dX13_apart_14 : decode cX13_apart 14 = .ok (.iload_n 1, 1) := by decide +kernel
theorem dX13_apart_15 : decode cX13_apart 15 = .ok (.bipush 9, 2) := by decide +kernel
theorem dX13_apart_17 : decode cX13_apart 17 = .ok (.idiv, 1) := by decide +kernel
theorem dX13_apart_18 : decode cX13_apart 18 = .ok (.isub, 1) := by decide +kernel
theorem dX13_apart_19 : decode cX13_apart 19 = .ok (.istore_n 3, 1) := by decide +kernel
theorem dX13_apart_20 : decode cX13_apart 20 = .ok (.iload_n 2, 1) := by decide +kernel
theorem dX13_apart_21 : decode cX13_apart 21 = .ok (.ifCond .ge 8, 3) := by decide +kernel
theorem dX13_apart_24 : decode cX13_apart 24 = .ok (.iload_n 2, 1) := by decide +kernel
theorem dX13_apart_25 : decode cX13_apart 25 = .ok (.ineg, 1) := by decide +kernel
theorem dX13_apart_26 : decode cX13_apart 26 = .ok (.goto 4, 3) := by decide +kernel
theorem dX13_apart_29 : decode cX13_apart 29 = .ok (.iload_n 2, 1) := by decide +kernel
theorem dX13_apart_30 : decode cX13_apart 30 = .ok (.iload_n 3, 1) := by decide +kernel
theorem dX13_apart_31 : decode cX13_apart 31 = .ok (.ifCond .ge 8, 3) := by decide +kernel
theorem dX13_apart_34 : decode cX13_apart 34 = .ok (.iload_n 3, 1) := by decide +kernel
theorem dX13_apart_35 : decode cX13_apart 35 = .ok (.ineg, 1) := by decide +kernel
theorem dX13_apart_36 : decode cX13_apart 36 = .ok (.goto 4, 3) := by decide +kernel
theorem dX13_apart_39 : decode cX13_apart 39 = .ok (.iload_n 3, 1) := by decide +kernel
theorem dX13_apart_40 : decode cX13_apart 40 = .ok (.iadd, 1) := by decide +kernel
theorem dX13_apart_41 : decode cX13_apart 41 = .ok (.ireturn, 1) := by decide +kernel
theorem dX13_pairs_0 : decode cX13_pairs 0 = .ok (.aload_n 0, 1) := by decide +kernel
theorem dX13_pairs_1 : decode cX13_pairs 1 = .ok (.getfield 16, 3) := by decide +kernel
theorem dX13_pairs_4 : decode cX13_pairs 4 = .ok (.sipush 230, 3) := by decide +kernel
theorem dX13_pairs_7 : decode cX13_pairs 7 = .ok (.iload_n 1, 1) := by decide +kernel
theorem dX13_pairs_8 : decode cX13_pairs 8 = .ok (.iadd, 1) := by decide +kernel
theorem dX13_pairs_9 : decode cX13_pairs 9 = .ok (.iaload, 1) := by decide +kernel
theorem dX13_pairs_10 : decode cX13_pairs 10 = .ok (.aload_n 0, 1) := by decide +kernel
theorem dX13_pairs_11 : decode cX13_pairs 11 = .ok (.getfield 16, 3) := by decide +kernel
theorem dX13_pairs_14 : decode cX13_pairs 14 = .ok (.sipush 230, 3) := by decide +kernel
theorem dX13_pairs_17 : decode cX13_pairs 17 = .ok (.iload_n 2, 1) := by decide +kernel
theorem dX13_pairs_18 : decode cX13_pairs 18 = .ok (.iadd, 1) := by decide +kernel
theorem dX13_pairs_19 : decode cX13_pairs 19 = .ok (.iaload, 1) := by decide +kernel
theorem dX13_pairs_20 : decode cX13_pairs 20 = .ok (.invokestatic 225, 3) := by decide +kernel
theorem dX13_pairs_23 : decode cX13_pairs 23 = .ok (.istore_n 3, 1) := by decide +kernel
theorem dX13_pairs_24 : decode cX13_pairs 24 = .ok (.aload_n 0, 1) := by decide +kernel
theorem dX13_pairs_25 : decode cX13_pairs 25 = .ok (.getfield 16, 3) := by decide +kernel
theorem dX13_pairs_28 : decode cX13_pairs 28 = .ok (.sipush 230, 3) := by decide +kernel
theorem dX13_pairs_31 : decode cX13_pairs 31 = .ok (.iload_n 1, 1) := by decide +kernel
theorem dX13_pairs_32 : decode cX13_pairs 32 = .ok (.iadd, 1) := by decide +kernel
theorem dX13_pairs_33 : decode cX13_pairs 33 = .ok (.iaload, 1) := by decide +kernel
theorem dX13_pairs_34 : decode cX13_pairs 34 = .ok (.aload_n 0, 1) := by decide +kernel
theorem dX13_pairs_35 : decode cX13_pairs 35 = .ok (.getfield 16, 3) := by decide +kernel
theorem dX13_pairs_38 : decode cX13_pairs 38 = .ok (.sipush 230, 3) := by decide +kernel
theorem dX13_pairs_41 : decode cX13_pairs 41 = .ok (.iload_n 2, 1) := by decide +kernel
theorem dX13_pairs_42 : decode cX13_pairs 42 = .ok (.iadd, 1) := by decide +kernel
theorem dX13_pairs_43 : decode cX13_pairs 43 = .ok (.iaload, 1) := by decide +kernel
theorem dX13_pairs_44 : decode cX13_pairs 44 = .ok (.invokestatic 71, 3) := by decide +kernel
theorem dX13_pairs_47 : decode cX13_pairs 47 = .ok (.invokestatic 225, 3) := by decide +kernel
theorem dX13_pairs_50 : decode cX13_pairs 50 = .ok (.istore 4, 2) := by decide +kernel
theorem dX13_pairs_52 : decode cX13_pairs 52 = .ok (.iload_n 3, 1) := by decide +kernel
theorem dX13_pairs_53 : decode cX13_pairs 53 = .ok (.iload 4, 2) := by decide +kernel
theorem dX13_pairs_55 : decode cX13_pairs 55 = .ok (.if_icmp .ge 7, 3) := by decide +kernel
theorem dX13_pairs_58 : decode cX13_pairs 58 = .ok (.iload_n 3, 1) := by decide +kernel
theorem dX13_pairs_59 : decode cX13_pairs 59 = .ok (.goto 5, 3) := by decide +kernel
theorem dX13_pairs_62 : decode cX13_pairs 62 = .ok (.iload 4, 2) := by decide +kernel
theorem dX13_pairs_64 : decode cX13_pairs 64 = .ok (.ireturn, 1) := by decide +kernel
theorem dX13_lowest_0 : decode cX13_lowest 0 = .ok (.iconst 0, 1) := by decide +kernel
theorem dX13_lowest_1 : decode cX13_lowest 1 = .ok (.istore_n 1, 1) := by decide +kernel
theorem dX13_lowest_2 : decode cX13_lowest 2 = .ok (.iload_n 0, 1) := by decide +kernel
theorem dX13_lowest_3 : decode cX13_lowest 3 = .ok (.iload_n 1, 1) := by decide +kernel
theorem dX13_lowest_4 : decode cX13_lowest 4 = .ok (.ishr, 1) := by decide +kernel
theorem dX13_lowest_5 : decode cX13_lowest 5 = .ok (.iconst 1, 1) := by decide +kernel
theorem dX13_lowest_6 : decode cX13_lowest 6 = .ok (.iand, 1) := by decide +kernel
theorem dX13_lowest_7 : decode cX13_lowest 7 = .ok (.ifCond .ne 9, 3) := by decide +kernel
theorem dX13_lowest_10 : decode cX13_lowest 10 = .ok (.iinc 1 1, 3) := by decide +kernel
theorem dX13_lowest_13 : decode cX13_lowest 13 = .ok (.goto (-11), 3) := by decide +kernel
theorem dX13_lowest_16 : decode cX13_lowest 16 = .ok (.iload_n 1, 1) := by decide +kernel
theorem dX13_lowest_17 : decode cX13_lowest 17 = .ok (.ireturn, 1) := by decide +kernel
theorem dX13_sets_0 : decode cX13_sets 0 = .ok (.aload_n 0, 1) := by decide +kernel
theorem dX13_sets_1 : decode cX13_sets 1 = .ok (.getfield 35, 3) := by decide +kernel
theorem dX13_sets_4 : decode cX13_sets 4 = .ok (.iconst 0, 1) := by decide +kernel
theorem dX13_sets_5 : decode cX13_sets 5 = .ok (.iconst 0, 1) := by decide +kernel
theorem dX13_sets_6 : decode cX13_sets 6 = .ok (.iastore, 1) := by decide +kernel
theorem dX13_sets_7 : decode cX13_sets 7 = .ok (.iconst 1, 1) := by decide +kernel
theorem dX13_sets_8 : decode cX13_sets 8 = .ok (.istore_n 1, 1) := by decide +kernel
theorem dX13_sets_9 : decode cX13_sets 9 = .ok (.iload_n 1, 1) := by decide +kernel
theorem dX13_sets_10 : decode cX13_sets 10 = .ok (.iconst 1, 1) := by decide +kernel
theorem dX13_sets_11 : decode cX13_sets 11 = .ok (.aload_n 0, 1) := by decide +kernel
theorem dX13_sets_12 : decode cX13_sets 12 = .ok (.getfield 16, 3) := by decide +kernel
theorem dX13_sets_15 : decode cX13_sets 15 = .ok (.iconst 4, 1) := by decide +kernel
theorem dX13_sets_16 : decode cX13_sets 16 = .ok (.iaload, 1) := by decide +kernel
theorem dX13_sets_17 : decode cX13_sets 17 = .ok (.ishl, 1) := by decide +kernel
theorem dX13_sets_18 : decode cX13_sets 18 = .ok (.if_icmp .ge 99, 3) := by decide +kernel
theorem dX13_sets_21 : decode cX13_sets 21 = .ok (.iload_n 1, 1) := by decide +kernel
theorem dX13_sets_22 : decode cX13_sets 22 = .ok (.invokestatic 228, 3) := by decide +kernel
theorem dX13_sets_25 : decode cX13_sets 25 = .ok (.istore_n 2, 1) := by decide +kernel
theorem dX13_sets_26 : decode cX13_sets 26 = .ok (.aload_n 0, 1) := by decide +kernel
theorem dX13_sets_27 : decode cX13_sets 27 = .ok (.getfield 35, 3) := by decide +kernel
theorem dX13_sets_30 : decode cX13_sets 30 = .ok (.iload_n 1, 1) := by decide +kernel
theorem dX13_sets_31 : decode cX13_sets 31 = .ok (.ldc 198, 2) := by decide +kernel
theorem dX13_sets_33 : decode cX13_sets 33 = .ok (.iastore, 1) := by decide +kernel
theorem dX13_sets_34 : decode cX13_sets 34 = .ok (.iload_n 2, 1) := by decide +kernel
theorem dX13_sets_35 : decode cX13_sets 35 = .ok (.iconst 1, 1) := by decide +kernel
theorem dX13_sets_36 : decode cX13_sets 36 = .ok (.iadd, 1) := by decide +kernel
theorem dX13_sets_37 : decode cX13_sets 37 = .ok (.istore_n 3, 1) := by decide +kernel
theorem dX13_sets_38 : decode cX13_sets 38 = .ok (.iload_n 3, 1) := by decide +kernel
theorem dX13_sets_39 : decode cX13_sets 39 = .ok (.aload_n 0, 1) := by decide +kernel
theorem dX13_sets_40 : decode cX13_sets 40 = .ok (.getfield 16, 3) := by decide +kernel
theorem dX13_sets_43 : decode cX13_sets 43 = .ok (.iconst 4, 1) := by decide +kernel
theorem dX13_sets_44 : decode cX13_sets 44 = .ok (.iaload, 1) := by decide +kernel
theorem dX13_sets_45 : decode cX13_sets 45 = .ok (.if_icmp .ge 66, 3) := by decide +kernel
theorem dX13_sets_48 : decode cX13_sets 48 = .ok (.iload_n 1, 1) := by decide +kernel
theorem dX13_sets_49 : decode cX13_sets 49 = .ok (.iload_n 3, 1) := by decide +kernel
theorem dX13_sets_50 : decode cX13_sets 50 = .ok (.ishr, 1) := by decide +kernel
theorem dX13_sets_51 : decode cX13_sets 51 = .ok (.iconst 1, 1) := by decide +kernel
theorem dX13_sets_52 : decode cX13_sets 52 = .ok (.iand, 1) := by decide +kernel
theorem dX13_sets_53 : decode cX13_sets 53 = .ok (.ifCond .ne 6, 3) := by decide +kernel
theorem dX13_sets_56 : decode cX13_sets 56 = .ok (.goto 49, 3) := by decide +kernel
theorem dX13_sets_59 : decode cX13_sets 59 = .ok (.aload_n 0, 1) := by decide +kernel
theorem dX13_sets_60 : decode cX13_sets 60 = .ok (.iload_n 2, 1) := by decide +kernel
theorem dX13_sets_61 : decode cX13_sets 61 = .ok (.iload_n 3, 1) := by decide +kernel
theorem dX13_sets_62 : decode cX13_sets 62 = .ok (.invokevirtual 231, 3) := by decide +kernel
theorem dX13_sets_65 : decode cX13_sets 65 = .ok (.aload_n 0, 1) := by decide +kernel
theorem dX13_sets_66 : decode cX13_sets 66 = .ok (.getfield 35, 3) := by decide +kernel
theorem dX13_sets_69 : decode cX13_sets 69 = .ok (.iload_n 1, 1) := by decide +kernel
theorem dX13_sets_70 : decode cX13_sets 70 = .ok (.iconst 1, 1) := by decide +kernel
theorem dX13_sets_71 : decode cX13_sets 71 = .ok (.iload_n 2, 1) := by decide +kernel
theorem dX13_sets_72 : decode cX13_sets 72 = .ok (.ishl, 1) := by decide +kernel
theorem dX13_sets_73 : decode cX13_sets 73 = .ok (.iconst (-1), 1) := by decide +kernel
theorem dX13_sets_74 : decode cX13_sets 74 = .ok (.ixor, 1) := by decide +kernel
theorem dX13_sets_75 : decode cX13_sets 75 = .ok (.iand, 1) := by decide +kernel
theorem dX13_sets_76 : decode cX13_sets 76 = .ok (.iconst 1, 1) := by decide +kernel
theorem dX13_sets_77 : decode cX13_sets 77 = .ok (.iload_n 3, 1) := by decide +kernel
theorem dX13_sets_78 : decode cX13_sets 78 = .ok (.ishl, 1) := by decide +kernel
theorem dX13_sets_79 : decode cX13_sets 79 = .ok (.iconst (-1), 1) := by decide +kernel
theorem dX13_sets_80 : decode cX13_sets 80 = .ok (.ixor, 1) := by decide +kernel
theorem dX13_sets_81 : decode cX13_sets 81 = .ok (.iand, 1) := by decide +kernel
theorem dX13_sets_82 : decode cX13_sets 82 = .ok (.iaload, 1) := by decide +kernel
theorem dX13_sets_83 : decode cX13_sets 83 = .ok (.iadd, 1) := by decide +kernel
theorem dX13_sets_84 : decode cX13_sets 84 = .ok (.istore 4, 2) := by decide +kernel
theorem dX13_sets_86 : decode cX13_sets 86 = .ok (.iload 4, 2) := by decide +kernel
theorem dX13_sets_88 : decode cX13_sets 88 = .ok (.aload_n 0, 1) := by decide +kernel
theorem dX13_sets_89 : decode cX13_sets 89 = .ok (.getfield 35, 3) := by decide +kernel
theorem dX13_sets_92 : decode cX13_sets 92 = .ok (.iload_n 1, 1) := by decide +kernel
theorem dX13_sets_93 : decode cX13_sets 93 = .ok (.iaload, 1) := by decide +kernel
theorem dX13_sets_94 : decode cX13_sets 94 = .ok (.if_icmp .ge 11, 3) := by decide +kernel
theorem dX13_sets_97 : decode cX13_sets 97 = .ok (.aload_n 0, 1) := by decide +kernel
theorem dX13_sets_98 : decode cX13_sets 98 = .ok (.getfield 35, 3) := by decide +kernel
theorem dX13_sets_101 : decode cX13_sets 101 = .ok (.iload_n 1, 1) := by decide +kernel
theorem dX13_sets_102 : decode cX13_sets 102 = .ok (.iload 4, 2) := by decide +kernel
theorem dX13_sets_104 : decode cX13_sets 104 = .ok (.iastore, 1) := by decide +kernel
theorem dX13_sets_105 : decode cX13_sets 105 = .ok (.iinc 3 1, 3) := by decide +kernel
theorem dX13_sets_108 : decode cX13_sets 108 = .ok (.goto (-70), 3) := by decide +kernel
theorem dX13_sets_111 : decode cX13_sets 111 = .ok (.iinc 1 1, 3) := by decide +kernel
theorem dX13_sets_114 : decode cX13_sets 114 = .ok (.goto (-105), 3) := by decide +kernel
theorem dX13_sets_117 : decode cX13_sets 117 = .ok (.return_, 1) := by decide +kernel
theorem dX13_pairingCost_0 : decode cX13_pairingCost 0 = .ok (.aload_n 0, 1) := by decide +kernel
theorem dX13_pairingCost_1 : decode cX13_pairingCost 1 = .ok (.aload_n 0, 1) := by decide +kernel
theorem dX13_pairingCost_2 : decode cX13_pairingCost 2 = .ok (.getfield 16, 3) := by decide +kernel
theorem dX13_pairingCost_5 : decode cX13_pairingCost 5 = .ok (.iconst 4, 1) := by decide +kernel
theorem dX13_pairingCost_6 : decode cX13_pairingCost 6 = .ok (.iaload, 1) := by decide +kernel
theorem dX13_pairingCost_7 : decode cX13_pairingCost 7 = .ok (.iconst 2, 1) := by decide +kernel
theorem dX13_pairingCost_8 : decode cX13_pairingCost 8 = .ok (.irem, 1) := by decide +kernel
theorem dX13_pairingCost_9 : decode cX13_pairingCost 9 = .ok (.putfield 53, 3) := by decide +kernel
theorem dX13_pairingCost_12 : decode cX13_pairingCost 12 = .ok (.aload_n 0, 1) := by decide +kernel
theorem dX13_pairingCost_13 : decode cX13_pairingCost 13 = .ok (.getfield 53, 3) := by decide +kernel
theorem dX13_pairingCost_16 : decode cX13_pairingCost 16 = .ok (.ifCond .eq 5, 3) := by decide +kernel
theorem dX13_pairingCost_19 : decode cX13_pairingCost 19 = .ok (.iconst 0, 1) := by decide +kernel
theorem dX13_pairingCost_20 : decode cX13_pairingCost 20 = .ok (.ireturn, 1) := by decide +kernel
theorem dX13_pairingCost_21 : decode cX13_pairingCost 21 = .ok (.aload_n 0, 1) := by decide +kernel
theorem dX13_pairingCost_22 : decode cX13_pairingCost 22 = .ok (.invokevirtual 234, 3) := by decide +kernel
theorem dX13_pairingCost_25 : decode cX13_pairingCost 25 = .ok (.aload_n 0, 1) := by decide +kernel
theorem dX13_pairingCost_26 : decode cX13_pairingCost 26 = .ok (.getfield 35, 3) := by decide +kernel
theorem dX13_pairingCost_29 : decode cX13_pairingCost 29 = .ok (.iconst 1, 1) := by decide +kernel
theorem dX13_pairingCost_30 : decode cX13_pairingCost 30 = .ok (.aload_n 0, 1) := by decide +kernel
theorem dX13_pairingCost_31 : decode cX13_pairingCost 31 = .ok (.getfield 16, 3) := by decide +kernel
theorem dX13_pairingCost_34 : decode cX13_pairingCost 34 = .ok (.iconst 4, 1) := by decide +kernel
theorem dX13_pairingCost_35 : decode cX13_pairingCost 35 = .ok (.iaload, 1) := by decide +kernel
theorem dX13_pairingCost_36 : decode cX13_pairingCost 36 = .ok (.ishl, 1) := by decide +kernel
theorem dX13_pairingCost_37 : decode cX13_pairingCost 37 = .ok (.iconst 1, 1) := by decide +kernel
theorem dX13_pairingCost_38 : decode cX13_pairingCost 38 = .ok (.isub, 1) := by decide +kernel
theorem dX13_pairingCost_39 : decode cX13_pairingCost 39 = .ok (.iaload, 1) := by decide +kernel
theorem dX13_pairingCost_40 : decode cX13_pairingCost 40 = .ok (.ireturn, 1) := by decide +kernel
theorem dX13_pairingCostBySearch_0 : decode cX13_pairingCostBySearch 0 = .ok (.aload_n 0, 1) := by decide +kernel
theorem dX13_pairingCostBySearch_1 : decode cX13_pairingCostBySearch 1 = .ok (.invokevirtual 237, 3) := by decide +kernel
theorem dX13_pairingCostBySearch_4 : decode cX13_pairingCostBySearch 4 = .ok (.ireturn, 1) := by decide +kernel
theorem dX13_partnerOf_0 : decode cX13_partnerOf 0 = .ok (.aload_n 0, 1) := by decide +kernel
theorem dX13_partnerOf_1 : decode cX13_partnerOf 1 = .ok (.aload_n 0, 1) := by decide +kernel
theorem dX13_partnerOf_2 : decode cX13_partnerOf 2 = .ok (.iload_n 1, 1) := by decide +kernel
theorem dX13_partnerOf_3 : decode cX13_partnerOf 3 = .ok (.invokevirtual 219, 3) := by decide +kernel
theorem dX13_partnerOf_6 : decode cX13_partnerOf 6 = .ok (.ifCond .ne 7, 3) := by decide +kernel
theorem dX13_partnerOf_9 : decode cX13_partnerOf 9 = .ok (.iconst 1, 1) := by decide +kernel
theorem dX13_partnerOf_10 : decode cX13_partnerOf 10 = .ok (.goto 20, 3) := by decide +kernel
theorem dX13_partnerOf_13 : decode cX13_partnerOf 13 = .ok (.aload_n 0, 1) := by decide +kernel
theorem dX13_partnerOf_14 : decode cX13_partnerOf 14 = .ok (.getfield 16, 3) := by decide +kernel
theorem dX13_partnerOf_17 : decode cX13_partnerOf 17 = .ok (.iconst 4, 1) := by decide +kernel
theorem dX13_partnerOf_18 : decode cX13_partnerOf 18 = .ok (.iaload, 1) := by decide +kernel
theorem dX13_partnerOf_19 : decode cX13_partnerOf 19 = .ok (.iconst 2, 1) := by decide +kernel
theorem dX13_partnerOf_20 : decode cX13_partnerOf 20 = .ok (.irem, 1) := by decide +kernel
theorem dX13_partnerOf_21 : decode cX13_partnerOf 21 = .ok (.iconst 1, 1) := by decide +kernel
theorem dX13_partnerOf_22 : decode cX13_partnerOf 22 = .ok (.if_icmp .ne 7, 3) := by decide +kernel
theorem dX13_partnerOf_25 : decode cX13_partnerOf 25 = .ok (.iconst 2, 1) := by decide +kernel
theorem dX13_partnerOf_26 : decode cX13_partnerOf 26 = .ok (.goto 4, 3) := by decide +kernel
theorem dX13_partnerOf_29 : decode cX13_partnerOf 29 = .ok (.iconst 0, 1) := by decide +kernel
theorem dX13_partnerOf_30 : decode cX13_partnerOf 30 = .ok (.putfield 53, 3) := by decide +kernel
theorem dX13_partnerOf_33 : decode cX13_partnerOf 33 = .ok (.aload_n 0, 1) := by decide +kernel
theorem dX13_partnerOf_34 : decode cX13_partnerOf 34 = .ok (.getfield 53, 3) := by decide +kernel
theorem dX13_partnerOf_37 : decode cX13_partnerOf 37 = .ok (.ifCond .eq 5, 3) := by decide +kernel
theorem dX13_partnerOf_40 : decode cX13_partnerOf 40 = .ok (.iconst 0, 1) := by decide +kernel
theorem dX13_partnerOf_41 : decode cX13_partnerOf 41 = .ok (.ireturn, 1) := by decide +kernel
theorem dX13_partnerOf_42 : decode cX13_partnerOf 42 = .ok (.aload_n 0, 1) := by decide +kernel
theorem dX13_partnerOf_43 : decode cX13_partnerOf 43 = .ok (.invokevirtual 234, 3) := by decide +kernel
theorem dX13_partnerOf_46 : decode cX13_partnerOf 46 = .ok (.iconst 1, 1) := by decide +kernel
theorem dX13_partnerOf_47 : decode cX13_partnerOf 47 = .ok (.aload_n 0, 1) := by decide +kernel
theorem dX13_partnerOf_48 : decode cX13_partnerOf 48 = .ok (.getfield 16, 3) := by decide +kernel
theorem dX13_partnerOf_51 : decode cX13_partnerOf 51 = .ok (.iconst 4, 1) := by decide +kernel
theorem dX13_partnerOf_52 : decode cX13_partnerOf 52 = .ok (.iaload, 1) := by decide +kernel
theorem dX13_partnerOf_53 : decode cX13_partnerOf 53 = .ok (.ishl, 1) := by decide +kernel
theorem dX13_partnerOf_54 : decode cX13_partnerOf 54 = .ok (.iconst 1, 1) := by decide +kernel
theorem dX13_partnerOf_55 : decode cX13_partnerOf 55 = .ok (.isub, 1) := by decide +kernel
theorem dX13_partnerOf_56 : decode cX13_partnerOf 56 = .ok (.istore_n 2, 1) := by decide +kernel
theorem dX13_partnerOf_57 : decode cX13_partnerOf 57 = .ok (.iload_n 2, 1) := by decide +kernel
theorem dX13_partnerOf_58 : decode cX13_partnerOf 58 = .ok (.ifCond .eq 98, 3) := by decide +kernel
theorem dX13_partnerOf_61 : decode cX13_partnerOf 61 = .ok (.iload_n 2, 1) := by decide +kernel
theorem dX13_partnerOf_62 : decode cX13_partnerOf 62 = .ok (.invokestatic 228, 3) := by decide +kernel
theorem dX13_partnerOf_65 : decode cX13_partnerOf 65 = .ok (.istore_n 3, 1) := by decide +kernel
theorem dX13_partnerOf_66 : decode cX13_partnerOf 66 = .ok (.iload_n 3, 1) := by decide +kernel
theorem dX13_partnerOf_67 : decode cX13_partnerOf 67 = .ok (.iconst 1, 1) := by decide +kernel
theorem dX13_partnerOf_68 : decode cX13_partnerOf 68 = .ok (.iadd, 1) := by decide +kernel
theorem dX13_partnerOf_69 : decode cX13_partnerOf 69 = .ok (.istore 4, 2) := by decide +kernel
theorem dX13_partnerOf_71 : decode cX13_partnerOf 71 = .ok (.iload_n 2, 1) := by decide +kernel
theorem dX13_partnerOf_72 : decode cX13_partnerOf 72 = .ok (.iload 4, 2) := by decide +kernel
theorem dX13_partnerOf_74 : decode cX13_partnerOf 74 = .ok (.ishr, 1) := by decide +kernel
theorem dX13_partnerOf_75 : decode cX13_partnerOf 75 = .ok (.iconst 1, 1) := by decide +kernel
theorem dX13_partnerOf_76 : decode cX13_partnerOf 76 = .ok (.iand, 1) := by decide +kernel
theorem dX13_partnerOf_77 : decode cX13_partnerOf 77 = .ok (.ifCond .eq 39, 3) := by decide +kernel
theorem dX13_partnerOf_80 : decode cX13_partnerOf 80 = .ok (.aload_n 0, 1) := by decide +kernel
theorem dX13_partnerOf_81 : decode cX13_partnerOf 81 = .ok (.iload_n 3, 1) := by decide +kernel
theorem dX13_partnerOf_82 : decode cX13_partnerOf 82 = .ok (.iload 4, 2) := by decide +kernel
theorem dX13_partnerOf_84 : decode cX13_partnerOf 84 = .ok (.invokevirtual 231, 3) := by decide +kernel
theorem dX13_partnerOf_87 : decode cX13_partnerOf 87 = .ok (.aload_n 0, 1) := by decide +kernel
theorem dX13_partnerOf_88 : decode cX13_partnerOf 88 = .ok (.getfield 35, 3) := by decide +kernel
theorem dX13_partnerOf_91 : decode cX13_partnerOf 91 = .ok (.iload_n 2, 1) := by decide +kernel
theorem dX13_partnerOf_92 : decode cX13_partnerOf 92 = .ok (.iconst 1, 1) := by decide +kernel
theorem dX13_partnerOf_93 : decode cX13_partnerOf 93 = .ok (.iload_n 3, 1) := by decide +kernel
theorem dX13_partnerOf_94 : decode cX13_partnerOf 94 = .ok (.ishl, 1) := by decide +kernel
theorem dX13_partnerOf_95 : decode cX13_partnerOf 95 = .ok (.iconst (-1), 1) := by decide +kernel
theorem dX13_partnerOf_96 : decode cX13_partnerOf 96 = .ok (.ixor, 1) := by decide +kernel
theorem dX13_partnerOf_97 : decode cX13_partnerOf 97 = .ok (.iand, 1) := by decide +kernel
theorem dX13_partnerOf_98 : decode cX13_partnerOf 98 = .ok (.iconst 1, 1) := by decide +kernel
theorem dX13_partnerOf_99 : decode cX13_partnerOf 99 = .ok (.iload 4, 2) := by decide +kernel
theorem dX13_partnerOf_101 : decode cX13_partnerOf 101 = .ok (.ishl, 1) := by decide +kernel
theorem dX13_partnerOf_102 : decode cX13_partnerOf 102 = .ok (.iconst (-1), 1) := by decide +kernel
theorem dX13_partnerOf_103 : decode cX13_partnerOf 103 = .ok (.ixor, 1) := by decide +kernel
theorem dX13_partnerOf_104 : decode cX13_partnerOf 104 = .ok (.iand, 1) := by decide +kernel
theorem dX13_partnerOf_105 : decode cX13_partnerOf 105 = .ok (.iaload, 1) := by decide +kernel
theorem dX13_partnerOf_106 : decode cX13_partnerOf 106 = .ok (.iadd, 1) := by decide +kernel
theorem dX13_partnerOf_107 : decode cX13_partnerOf 107 = .ok (.aload_n 0, 1) := by decide +kernel
theorem dX13_partnerOf_108 : decode cX13_partnerOf 108 = .ok (.getfield 35, 3) := by decide +kernel
theorem dX13_partnerOf_111 : decode cX13_partnerOf 111 = .ok (.iload_n 2, 1) := by decide +kernel
theorem dX13_partnerOf_112 : decode cX13_partnerOf 112 = .ok (.iaload, 1) := by decide +kernel
theorem dX13_partnerOf_113 : decode cX13_partnerOf 113 = .ok (.if_icmp .eq 9, 3) := by decide +kernel
theorem dX13_partnerOf_116 : decode cX13_partnerOf 116 = .ok (.iinc 4 1, 3) := by decide +kernel
theorem dX13_partnerOf_119 : decode cX13_partnerOf 119 = .ok (.goto (-48), 3) := by decide +kernel
theorem dX13_partnerOf_122 : decode cX13_partnerOf 122 = .ok (.iload_n 3, 1) := by decide +kernel
theorem dX13_partnerOf_123 : decode cX13_partnerOf 123 = .ok (.iload_n 1, 1) := by decide +kernel
theorem dX13_partnerOf_124 : decode cX13_partnerOf 124 = .ok (.if_icmp .ne 6, 3) := by decide +kernel
theorem dX13_partnerOf_127 : decode cX13_partnerOf 127 = .ok (.iload 4, 2) := by decide +kernel
theorem dX13_partnerOf_129 : decode cX13_partnerOf 129 = .ok (.ireturn, 1) := by decide +kernel
theorem dX13_partnerOf_130 : decode cX13_partnerOf 130 = .ok (.iload 4, 2) := by decide +kernel
theorem dX13_partnerOf_132 : decode cX13_partnerOf 132 = .ok (.iload_n 1, 1) := by decide +kernel
theorem dX13_partnerOf_133 : decode cX13_partnerOf 133 = .ok (.if_icmp .ne 5, 3) := by decide +kernel
theorem dX13_partnerOf_136 : decode cX13_partnerOf 136 = .ok (.iload_n 3, 1) := by decide +kernel
theorem dX13_partnerOf_137 : decode cX13_partnerOf 137 = .ok (.ireturn, 1) := by decide +kernel
theorem dX13_partnerOf_138 : decode cX13_partnerOf 138 = .ok (.iload_n 2, 1) := by decide +kernel
theorem dX13_partnerOf_139 : decode cX13_partnerOf 139 = .ok (.iconst 1, 1) := by decide +kernel
theorem dX13_partnerOf_140 : decode cX13_partnerOf 140 = .ok (.iload_n 3, 1) := by decide +kernel
theorem dX13_partnerOf_141 : decode cX13_partnerOf 141 = .ok (.ishl, 1) := by decide +kernel
theorem dX13_partnerOf_142 : decode cX13_partnerOf 142 = .ok (.iconst (-1), 1) := by decide +kernel
theorem dX13_partnerOf_143 : decode cX13_partnerOf 143 = .ok (.ixor, 1) := by decide +kernel
theorem dX13_partnerOf_144 : decode cX13_partnerOf 144 = .ok (.iand, 1) := by decide +kernel
theorem dX13_partnerOf_145 : decode cX13_partnerOf 145 = .ok (.iconst 1, 1) := by decide +kernel
theorem dX13_partnerOf_146 : decode cX13_partnerOf 146 = .ok (.iload 4, 2) := by decide +kernel
theorem dX13_partnerOf_148 : decode cX13_partnerOf 148 = .ok (.ishl, 1) := by decide +kernel
theorem dX13_partnerOf_149 : decode cX13_partnerOf 149 = .ok (.iconst (-1), 1) := by decide +kernel
theorem dX13_partnerOf_150 : decode cX13_partnerOf 150 = .ok (.ixor, 1) := by decide +kernel
theorem dX13_partnerOf_151 : decode cX13_partnerOf 151 = .ok (.iand, 1) := by decide +kernel
theorem dX13_partnerOf_152 : decode cX13_partnerOf 152 = .ok (.istore_n 2, 1) := by decide +kernel
theorem dX13_partnerOf_153 : decode cX13_partnerOf 153 = .ok (.goto (-96), 3) := by decide +kernel
theorem dX13_partnerOf_156 : decode cX13_partnerOf 156 = .ok (.iconst 0, 1) := by decide +kernel
theorem dX13_partnerOf_157 : decode cX13_partnerOf 157 = .ok (.ireturn, 1) := by decide +kernel
theorem dX13_fares_0 : decode cX13_fares 0 = .ok (.iconst 0, 1) := by decide +kernel
theorem dX13_fares_1 : decode cX13_fares 1 = .ok (.istore_n 1, 1) := by decide +kernel
theorem dX13_fares_2 : decode cX13_fares 2 = .ok (.iconst 0, 1) := by decide +kernel
theorem dX13_fares_3 : decode cX13_fares 3 = .ok (.istore_n 2, 1) := by decide +kernel
theorem dX13_fares_4 : decode cX13_fares 4 = .ok (.iload_n 2, 1) := by decide +kernel
theorem dX13_fares_5 : decode cX13_fares 5 = .ok (.aload_n 0, 1) := by decide +kernel
theorem dX13_fares_6 : decode cX13_fares 6 = .ok (.getfield 16, 3) := by decide +kernel
theorem dX13_fares_9 : decode cX13_fares 9 = .ok (.iconst 3, 1) := by decide +kernel
theorem dX13_fares_10 : decode cX13_fares 10 = .ok (.iaload, 1) := by decide +kernel
theorem dX13_fares_11 : decode cX13_fares 11 = .ok (.if_icmp .ge 22, 3) := by decide +kernel
theorem dX13_fares_14 : decode cX13_fares 14 = .ok (.iload_n 1, 1) := by decide +kernel
theorem dX13_fares_15 : decode cX13_fares 15 = .ok (.aload_n 0, 1) := by decide +kernel
theorem dX13_fares_16 : decode cX13_fares 16 = .ok (.getfield 16, 3) := by decide +kernel
theorem dX13_fares_19 : decode cX13_fares 19 = .ok (.iload_n 2, 1) := by decide +kernel
theorem dX13_fares_20 : decode cX13_fares 20 = .ok (.iconst 3, 1) := by decide +kernel
theorem dX13_fares_21 : decode cX13_fares 21 = .ok (.invokestatic 74, 3) := by decide +kernel
theorem dX13_fares_24 : decode cX13_fares 24 = .ok (.iaload, 1) := by decide +kernel
theorem dX13_fares_25 : decode cX13_fares 25 = .ok (.iadd, 1) := by decide +kernel
theorem dX13_fares_26 : decode cX13_fares 26 = .ok (.istore_n 1, 1) := by decide +kernel
theorem dX13_fares_27 : decode cX13_fares 27 = .ok (.iinc 2 1, 3) := by decide +kernel
theorem dX13_fares_30 : decode cX13_fares 30 = .ok (.goto (-26), 3) := by decide +kernel
theorem dX13_fares_33 : decode cX13_fares 33 = .ok (.iload_n 1, 1) := by decide +kernel
theorem dX13_fares_34 : decode cX13_fares 34 = .ok (.ireturn, 1) := by decide +kernel
theorem dX13_fareTotal_0 : decode cX13_fareTotal 0 = .ok (.aload_n 0, 1) := by decide +kernel
theorem dX13_fareTotal_1 : decode cX13_fareTotal 1 = .ok (.iconst 0, 1) := by decide +kernel
theorem dX13_fareTotal_2 : decode cX13_fareTotal 2 = .ok (.putfield 53, 3) := by decide +kernel
theorem dX13_fareTotal_5 : decode cX13_fareTotal 5 = .ok (.aload_n 0, 1) := by decide +kernel
theorem dX13_fareTotal_6 : decode cX13_fareTotal 6 = .ok (.invokevirtual 240, 3) := by decide +kernel
theorem dX13_fareTotal_9 : decode cX13_fareTotal 9 = .ok (.aload_n 0, 1) := by decide +kernel
theorem dX13_fareTotal_10 : decode cX13_fareTotal 10 = .ok (.getfield 16, 3) := by decide +kernel
theorem dX13_fareTotal_13 : decode cX13_fareTotal 13 = .ok (.iconst 5, 1) := by decide +kernel
theorem dX13_fareTotal_14 : decode cX13_fareTotal 14 = .ok (.iaload, 1) := by decide +kernel
theorem dX13_fareTotal_15 : decode cX13_fareTotal 15 = .ok (.iadd, 1) := by decide +kernel
theorem dX13_fareTotal_16 : decode cX13_fareTotal 16 = .ok (.ireturn, 1) := by decide +kernel
theorem dX13_fareTotalByBoats_0 : decode cX13_fareTotalByBoats 0 = .ok (.aload_n 0, 1) := by decide +kernel
theorem dX13_fareTotalByBoats_1 : decode cX13_fareTotalByBoats 1 = .ok (.invokevirtual 243, 3) := by decide +kernel
theorem dX13_fareTotalByBoats_4 : decode cX13_fareTotalByBoats 4 = .ok (.ireturn, 1) := by decide +kernel
theorem dX13_meetingCount_0 : decode cX13_meetingCount 0 = .ok (.aload_n 0, 1) := by decide +kernel
theorem dX13_meetingCount_1 : decode cX13_meetingCount 1 = .ok (.bipush 6, 2) := by decide +kernel
theorem dX13_meetingCount_3 : decode cX13_meetingCount 3 = .ok (.invokevirtual 117, 3) := by decide +kernel
theorem dX13_meetingCount_6 : decode cX13_meetingCount 6 = .ok (.ireturn, 1) := by decide +kernel
theorem dX13_append_0 : decode cX13_append 0 = .ok (.aload_n 0, 1) := by decide +kernel
theorem dX13_append_1 : decode cX13_append 1 = .ok (.iload_n 1, 1) := by decide +kernel
theorem dX13_append_2 : decode cX13_append 2 = .ok (.bipush 32, 2) := by decide +kernel
theorem dX13_append_4 : decode cX13_append 4 = .ok (.bipush 126, 2) := by decide +kernel
theorem dX13_append_6 : decode cX13_append 6 = .ok (.invokestatic 63, 3) := by decide +kernel
theorem dX13_append_9 : decode cX13_append 9 = .ok (.ifCond .ne 7, 3) := by decide +kernel
theorem dX13_append_12 : decode cX13_append 12 = .ok (.iconst 1, 1) := by decide +kernel
theorem dX13_append_13 : decode cX13_append 13 = .ok (.goto 17, 3) := by decide +kernel
theorem dX13_append_16 : decode cX13_append 16 = .ok (.aload_n 0, 1) := by decide +kernel
theorem dX13_append_17 : decode cX13_append 17 = .ok (.getfield 246, 3) := by decide +kernel
theorem dX13_append_20 : decode cX13_append 20 = .ok (.bipush 60, 2) := by decide +kernel
theorem dX13_append_22 : decode cX13_append 22 = .ok (.if_icmp .ne 7, 3) := by decide +kernel
theorem dX13_append_25 : decode cX13_append 25 = .ok (.iconst 2, 1) := by decide +kernel
theorem dX13_append_26 : decode cX13_append 26 = .ok (.goto 4, 3) := by decide +kernel
theorem dX13_append_29 : decode cX13_append 29 = .ok (.iconst 0, 1) := by decide +kernel
theorem dX13_append_30 : decode cX13_append 30 = .ok (.putfield 53, 3) := by decide +kernel
theorem dX13_append_33 : decode cX13_append 33 = .ok (.aload_n 0, 1) := by decide +kernel
theorem dX13_append_34 : decode cX13_append 34 = .ok (.getfield 53, 3) := by decide +kernel
theorem dX13_append_37 : decode cX13_append 37 = .ok (.ifCond .eq 5, 3) := by decide +kernel
theorem dX13_append_40 : decode cX13_append 40 = .ok (.iconst 0, 1) := by decide +kernel
theorem dX13_append_41 : decode cX13_append 41 = .ok (.ireturn, 1) := by decide +kernel
theorem dX13_append_42 : decode cX13_append 42 = .ok (.aload_n 0, 1) := by decide +kernel
theorem dX13_append_43 : decode cX13_append 43 = .ok (.getfield 38, 3) := by decide +kernel
theorem dX13_append_46 : decode cX13_append 46 = .ok (.aload_n 0, 1) := by decide +kernel
theorem dX13_append_47 : decode cX13_append 47 = .ok (.getfield 246, 3) := by decide +kernel
theorem dX13_append_50 : decode cX13_append 50 = .ok (.iload_n 1, 1) := by decide +kernel
theorem dX13_append_51 : decode cX13_append 51 = .ok (.iastore, 1) := by decide +kernel
theorem dX13_append_52 : decode cX13_append 52 = .ok (.aload_n 0, 1) := by decide +kernel
theorem dX13_append_53 : decode cX13_append 53 = .ok (.dup, 1) := by decide +kernel
theorem dX13_append_54 : decode cX13_append 54 = .ok (.getfield 246, 3) := by decide +kernel
theorem dX13_append_57 : decode cX13_append 57 = .ok (.iconst 1, 1) := by decide +kernel
theorem dX13_append_58 : decode cX13_append 58 = .ok (.iadd, 1) := by decide +kernel
theorem dX13_append_59 : decode cX13_append 59 = .ok (.putfield 246, 3) := by decide +kernel
theorem dX13_append_62 : decode cX13_append 62 = .ok (.aload_n 0, 1) := by decide +kernel
theorem dX13_append_63 : decode cX13_append 63 = .ok (.getfield 246, 3) := by decide +kernel
theorem dX13_append_66 : decode cX13_append 66 = .ok (.ireturn, 1) := by decide +kernel
theorem dX13_sign_0 : decode cX13_sign 0 = .ok (.aload_n 0, 1) := by decide +kernel
theorem dX13_sign_1 : decode cX13_sign 1 = .ok (.getfield 249, 3) := by decide +kernel
theorem dX13_sign_4 : decode cX13_sign 4 = .ok (.aload_n 0, 1) := by decide +kernel
theorem dX13_sign_5 : decode cX13_sign 5 = .ok (.getfield 252, 3) := by decide +kernel
theorem dX13_sign_8 : decode cX13_sign 8 = .ok (.if_icmp .ge 15, 3) := by decide +kernel
theorem dX13_sign_11 : decode cX13_sign 11 = .ok (.aload_n 0, 1) := by decide +kernel
theorem dX13_sign_12 : decode cX13_sign 12 = .ok (.getfield 38, 3) := by decide +kernel
theorem dX13_sign_15 : decode cX13_sign 15 = .ok (.aload_n 0, 1) := by decide +kernel
theorem dX13_sign_16 : decode cX13_sign 16 = .ok (.getfield 249, 3) := by decide +kernel
theorem dX13_sign_19 : decode cX13_sign 19 = .ok (.iaload, 1) := by decide +kernel
theorem dX13_sign_20 : decode cX13_sign 20 = .ok (.goto 4, 3) := by decide +kernel
theorem dX13_sign_23 : decode cX13_sign 23 = .ok (.iconst (-1), 1) := by decide +kernel
theorem dX13_sign_24 : decode cX13_sign 24 = .ok (.ireturn, 1) := by decide +kernel
theorem dX13_mark_0 : decode cX13_mark 0 = .ok (.aload_n 0, 1) := by decide +kernel
theorem dX13_mark_1 : decode cX13_mark 1 = .ok (.getfield 255, 3) := by decide +kernel
theorem dX13_mark_4 : decode cX13_mark 4 = .ok (.ifCond .eq 4, 3) := by decide +kernel
theorem dX13_mark_7 : decode cX13_mark 7 = .ok (.return_, 1) := by decide +kernel
theorem dX13_mark_8 : decode cX13_mark 8 = .ok (.aload_n 0, 1) := by decide +kernel
theorem dX13_mark_9 : decode cX13_mark 9 = .ok (.aload_n 0, 1) := by decide +kernel
theorem dX13_mark_10 : decode cX13_mark 10 = .ok (.invokevirtual 259, 3) := by decide +kernel
theorem dX13_mark_13 : decode cX13_mark 13 = .ok (.iload_n 1, 1) := by decide +kernel
theorem dX13_mark_14 : decode cX13_mark 14 = .ok (.if_icmp .eq 7, 3) := by decide +kernel
theorem dX13_mark_17 : decode cX13_mark 17 = .ok (.iconst 1, 1) := by decide +kernel
theorem dX13_mark_18 : decode cX13_mark 18 = .ok (.goto 4, 3) := by decide +kernel
theorem dX13_mark_21 : decode cX13_mark 21 = .ok (.iconst 0, 1) := by decide +kernel
theorem dX13_mark_22 : decode cX13_mark 22 = .ok (.putfield 255, 3) := by decide +kernel
theorem dX13_mark_25 : decode cX13_mark 25 = .ok (.aload_n 0, 1) := by decide +kernel
theorem dX13_mark_26 : decode cX13_mark 26 = .ok (.dup, 1) := by decide +kernel
theorem dX13_mark_27 : decode cX13_mark 27 = .ok (.getfield 249, 3) := by decide +kernel
theorem dX13_mark_30 : decode cX13_mark 30 = .ok (.aload_n 0, 1) := by decide +kernel
theorem dX13_mark_31 : decode cX13_mark 31 = .ok (.getfield 255, 3) := by decide +kernel
theorem dX13_mark_34 : decode cX13_mark 34 = .ok (.ifCond .eq 7, 3) := by decide +kernel
theorem dX13_mark_37 : decode cX13_mark 37 = .ok (.iconst 0, 1) := by decide +kernel
theorem dX13_mark_38 : decode cX13_mark 38 = .ok (.goto 4, 3) := by decide +kernel
theorem dX13_mark_41 : decode cX13_mark 41 = .ok (.iconst 1, 1) := by decide +kernel
theorem dX13_mark_42 : decode cX13_mark 42 = .ok (.iadd, 1) := by decide +kernel
theorem dX13_mark_43 : decode cX13_mark 43 = .ok (.putfield 249, 3) := by decide +kernel
theorem dX13_mark_46 : decode cX13_mark 46 = .ok (.return_, 1) := by decide +kernel
theorem dX13_digit_0 : decode cX13_digit 0 = .ok (.aload_n 0, 1) := by decide +kernel
theorem dX13_digit_1 : decode cX13_digit 1 = .ok (.getfield 255, 3) := by decide +kernel
theorem dX13_digit_4 : decode cX13_digit 4 = .ok (.ifCond .eq 5, 3) := by decide +kernel
theorem dX13_digit_7 : decode cX13_digit 7 = .ok (.iconst 0, 1) := by decide +kernel
theorem dX13_digit_8 : decode cX13_digit 8 = .ok (.ireturn, 1) := by decide +kernel
theorem dX13_digit_9 : decode cX13_digit 9 = .ok (.aload_n 0, 1) := by decide +kernel
theorem dX13_digit_10 : decode cX13_digit 10 = .ok (.aload_n 0, 1) := by decide +kernel
theorem dX13_digit_11 : decode cX13_digit 11 = .ok (.invokevirtual 259, 3) := by decide +kernel
theorem dX13_digit_14 : decode cX13_digit 14 = .ok (.bipush 48, 2) := by decide +kernel
theorem dX13_digit_16 : decode cX13_digit 16 = .ok (.bipush 57, 2) := by decide +kernel
theorem dX13_digit_18 : decode cX13_digit 18 = .ok (.invokestatic 63, 3) := by decide +kernel
theorem dX13_digit_21 : decode cX13_digit 21 = .ok (.ifCond .ne 7, 3) := by decide +kernel
theorem dX13_digit_24 : decode cX13_digit 24 = .ok (.iconst 1, 1) := by decide +kernel
theorem dX13_digit_25 : decode cX13_digit 25 = .ok (.goto 4, 3) := by decide +kernel
theorem dX13_digit_28 : decode cX13_digit 28 = .ok (.iconst 0, 1) := by decide +kernel
theorem dX13_digit_29 : decode cX13_digit 29 = .ok (.putfield 255, 3) := by decide +kernel
theorem dX13_digit_32 : decode cX13_digit 32 = .ok (.aload_n 0, 1) := by decide +kernel
theorem dX13_digit_33 : decode cX13_digit 33 = .ok (.dup, 1) := by decide +kernel
theorem dX13_digit_34 : decode cX13_digit 34 = .ok (.getfield 249, 3) := by decide +kernel
theorem dX13_digit_37 : decode cX13_digit 37 = .ok (.aload_n 0, 1) := by decide +kernel
theorem dX13_digit_38 : decode cX13_digit 38 = .ok (.getfield 255, 3) := by decide +kernel
theorem dX13_digit_41 : decode cX13_digit 41 = .ok (.ifCond .eq 7, 3) := by decide +kernel
theorem dX13_digit_44 : decode cX13_digit 44 = .ok (.iconst 0, 1) := by decide +kernel
theorem dX13_digit_45 : decode cX13_digit 45 = .ok (.goto 4, 3) := by decide +kernel
theorem dX13_digit_48 : decode cX13_digit 48 = .ok (.iconst 1, 1) := by decide +kernel
theorem dX13_digit_49 : decode cX13_digit 49 = .ok (.iadd, 1) := by decide +kernel
theorem dX13_digit_50 : decode cX13_digit 50 = .ok (.putfield 249, 3) := by decide +kernel
theorem dX13_digit_53 : decode cX13_digit 53 = .ok (.aload_n 0, 1) := by decide +kernel
theorem dX13_digit_54 : decode cX13_digit 54 = .ok (.getfield 255, 3) := by decide +kernel
theorem dX13_digit_57 : decode cX13_digit 57 = .ok (.ifCond .eq 7, 3) := by decide +kernel
theorem dX13_digit_60 : decode cX13_digit 60 = .ok (.iconst 0, 1) := by decide +kernel
theorem dX13_digit_61 : decode cX13_digit 61 = .ok (.goto 17, 3) := by decide +kernel
theorem dX13_digit_64 : decode cX13_digit 64 = .ok (.aload_n 0, 1) := by decide +kernel
theorem dX13_digit_65 : decode cX13_digit 65 = .ok (.getfield 38, 3) := by decide +kernel
theorem dX13_digit_68 : decode cX13_digit 68 = .ok (.aload_n 0, 1) := by decide +kernel
theorem dX13_digit_69 : decode cX13_digit 69 = .ok (.getfield 249, 3) := by decide +kernel
theorem dX13_digit_72 : decode cX13_digit 72 = .ok (.iconst 1, 1) := by decide +kernel
theorem dX13_digit_73 : decode cX13_digit 73 = .ok (.isub, 1) := by decide +kernel
theorem dX13_digit_74 : decode cX13_digit 74 = .ok (.iaload, 1) := by decide +kernel
theorem dX13_digit_75 : decode cX13_digit 75 = .ok (.bipush 48, 2) := by decide +kernel
theorem dX13_digit_77 : decode cX13_digit 77 = .ok (.isub, 1) := by decide +kernel
theorem dX13_digit_78 : decode cX13_digit 78 = .ok (.ireturn, 1) := by decide +kernel
theorem dX13_word_0 : decode cX13_word 0 = .ok (.iconst 0, 1) := by decide +kernel
theorem dX13_word_1 : decode cX13_word 1 = .ok (.istore_n 1, 1) := by decide +kernel
theorem dX13_word_2 : decode cX13_word 2 = .ok (.iload_n 1, 1) := by decide +kernel
theorem dX13_word_3 : decode cX13_word 3 = .ok (.bipush 11, 2) := by decide +kernel
theorem dX13_word_5 : decode cX13_word 5 = .ok (.if_icmp .ge 16, 3) := by decide +kernel
theorem dX13_word_8 : decode cX13_word 8 = .ok (.aload_n 0, 1) := by decide +kernel
theorem dX13_word_9 : decode cX13_word 9 = .ok (.getfield 44, 3) := by decide +kernel
theorem dX13_word_12 : decode cX13_word 12 = .ok (.iload_n 1, 1) := by decide +kernel
theorem dX13_word_13 : decode cX13_word 13 = .ok (.iconst 1, 1) := by decide +kernel
theorem dX13_word_14 : decode cX13_word 14 = .ok (.iastore, 1) := by decide +kernel
theorem dX13_word_15 : decode cX13_word 15 = .ok (.iinc 1 1, 3) := by decide +kernel
theorem dX13_word_18 : decode cX13_word 18 = .ok (.goto (-16), 3) := by decide +kernel
theorem dX13_word_21 : decode cX13_word 21 = .ok (.iconst 0, 1) := by decide +kernel
theorem dX13_word_22 : decode cX13_word 22 = .ok (.istore_n 1, 1) := by decide +kernel
theorem dX13_word_23 : decode cX13_word 23 = .ok (.iconst (-1), 1) := by decide +kernel
theorem dX13_word_24 : decode cX13_word 24 = .ok (.istore_n 2, 1) := by decide +kernel
theorem dX13_word_25 : decode cX13_word 25 = .ok (.iload_n 2, 1) := by decide +kernel
theorem dX13_word_26 : decode cX13_word 26 = .ok (.ifCond .ge 196, 3) := by decide +kernel
theorem dX13_word_29 : decode cX13_word 29 = .ok (.aload_n 0, 1) := by decide +kernel
theorem dX13_word_30 : decode cX13_word 30 = .ok (.getfield 255, 3) := by decide +kernel
theorem dX13_word_33 : decode cX13_word 33 = .ok (.ifCond .ne 189, 3) := by decide +kernel
theorem dX13_word_36 : decode cX13_word 36 = .ok (.iconst 0, 1) := by decide +kernel
theorem dX13_word_37 : decode cX13_word 37 = .ok (.istore_n 3, 1) := by decide +kernel
theorem dX13_word_38 : decode cX13_word 38 = .ok (.iconst 0, 1) := by decide +kernel
theorem dX13_word_39 : decode cX13_word 39 = .ok (.istore 4, 2) := by decide +kernel
theorem dX13_word_41 : decode cX13_word 41 = .ok (.iload 4, 2) := by decide +kernel
theorem dX13_word_43 : decode cX13_word 43 = .ok (.bipush 11, 2) := by decide +kernel
theorem dX13_word_45 : decode cX13_word 45 = .ok (.if_icmp .ge 85, 3) := by decide +kernel
theorem dX13_word_48 : decode cX13_word 48 = .ok (.aload_n 0, 1) := by decide +kernel
theorem dX13_word_49 : decode cX13_word 49 = .ok (.getfield 44, 3) := by decide +kernel
theorem dX13_word_52 : decode cX13_word 52 = .ok (.iload 4, 2) := by decide +kernel
theorem dX13_word_54 : decode cX13_word 54 = .ok (.dup2, 1) := by decide +kernel
theorem dX13_word_55 : decode cX13_word 55 = .ok (.iaload, 1) := by decide +kernel
theorem dX13_word_56 : decode cX13_word 56 = .ok (.aload_n 0, 1) := by decide +kernel
theorem dX13_word_57 : decode cX13_word 57 = .ok (.getfield 50, 3) := by decide +kernel
theorem dX13_word_60 : decode cX13_word 60 = .ok (.iload 4, 2) := by decide +kernel
theorem dX13_word_62 : decode cX13_word 62 = .ok (.iaload, 1) := by decide +kernel
theorem dX13_word_63 : decode cX13_word 63 = .ok (.iload_n 1, 1) := by decide +kernel
theorem dX13_word_64 : decode cX13_word 64 = .ok (.iadd, 1) := by decide +kernel
theorem dX13_word_65 : decode cX13_word 65 = .ok (.aload_n 0, 1) := by decide +kernel
theorem dX13_word_66 : decode cX13_word 66 = .ok (.getfield 50, 3) := by decide +kernel
theorem dX13_word_69 : decode cX13_word 69 = .ok (.iload 4, 2) := by decide +kernel
theorem dX13_word_71 : decode cX13_word 71 = .ok (.iconst 1, 1) := by decide +kernel
theorem dX13_word_72 : decode cX13_word 72 = .ok (.iadd, 1) := by decide +kernel
theorem dX13_word_73 : decode cX13_word 73 = .ok (.iaload, 1) := by decide +kernel
theorem dX13_word_74 : decode cX13_word 74 = .ok (.if_icmp .ge 28, 3) := by decide +kernel
theorem dX13_word_77 : decode cX13_word 77 = .ok (.aload_n 0, 1) := by decide +kernel
theorem dX13_word_78 : decode cX13_word 78 = .ok (.getfield 47, 3) := by decide +kernel
theorem dX13_word_81 : decode cX13_word 81 = .ok (.aload_n 0, 1) := by decide +kernel
theorem dX13_word_82 : decode cX13_word 82 = .ok (.getfield 50, 3) := by decide +kernel
theorem dX13_word_85 : decode cX13_word 85 = .ok (.iload 4, 2) := by decide +kernel
theorem dX13_word_87 : decode cX13_word 87 = .ok (.iaload, 1) := by decide +kernel
theorem dX13_word_88 : decode cX13_word 88 = .ok (.iload_n 1, 1) := by decide +kernel
theorem dX13_word_89 : decode cX13_word 89 = .ok (.iadd, 1) := by decide +kernel
theorem dX13_word_90 : decode cX13_word 90 = .ok (.iaload, 1) := by decide +kernel
theorem dX13_word_91 : decode cX13_word 91 = .ok (.aload_n 0, 1) := by decide +kernel
theorem dX13_word_92 : decode cX13_word 92 = .ok (.invokevirtual 259, 3) := by decide +kernel
theorem dX13_word_95 : decode cX13_word 95 = .ok (.if_icmp .ne 7, 3) := by decide +kernel
theorem dX13_word_98 : decode cX13_word 98 = .ok (.iconst 1, 1) := by decide +kernel
theorem dX13_word_99 : decode cX13_word 99 = .ok (.goto 4, 3) := by decide +kernel
theorem dX13_word_102 : decode cX13_word 102 = .ok (.iconst 0, 1) := by decide +kernel
theorem dX13_word_103 : decode cX13_word 103 = .ok (.iand, 1) := by decide +kernel
theorem dX13_word_104 : decode cX13_word 104 = .ok (.iastore, 1) := by decide +kernel
theorem dX13_word_105 : decode cX13_word 105 = .ok (.iload_n 3, 1) := by decide +kernel
theorem dX13_word_106 : decode cX13_word 106 = .ok (.aload_n 0, 1) := by decide +kernel
theorem dX13_word_107 : decode cX13_word 107 = .ok (.getfield 44, 3) := by decide +kernel
theorem dX13_word_110 : decode cX13_word 110 = .ok (.iload 4, 2) := by decide +kernel
theorem dX13_word_112 : decode cX13_word 112 = .ok (.iaload, 1) := by decide +kernel
theorem dX13_word_113 : decode cX13_word 113 = .ok (.iconst 1, 1) := by decide +kernel
theorem dX13_word_114 : decode cX13_word 114 = .ok (.if_icmp .ne 7, 3) := by decide +kernel
theorem dX13_word_117 : decode cX13_word 117 = .ok (.iconst 1, 1) := by decide +kernel
theorem dX13_word_118 : decode cX13_word 118 = .ok (.goto 4, 3) := by decide +kernel
theorem dX13_word_121 : decode cX13_word 121 = .ok (.iconst 0, 1) := by decide +kernel
theorem dX13_word_122 : decode cX13_word 122 = .ok (.ior, 1) := by decide +kernel
theorem dX13_word_123 : decode cX13_word 123 = .ok (.istore_n 3, 1) := by decide +kernel
theorem dX13_word_124 : decode cX13_word 124 = .ok (.iinc 4 1, 3) := by decide +kernel
theorem dX13_word_127 : decode cX13_word 127 = .ok (.goto (-86), 3) := by decide +kernel
theorem dX13_word_130 : decode cX13_word 130 = .ok (.aload_n 0, 1) := by decide +kernel
theorem dX13_word_131 : decode cX13_word 131 = .ok (.iload_n 3, 1) := by decide +kernel
theorem dX13_word_132 : decode cX13_word 132 = .ok (.ifCond .ne 7, 3) := by decide +kernel
theorem dX13_word_135 : decode cX13_word 135 = .ok (.iconst 1, 1) := by decide +kernel
theorem dX13_word_136 : decode cX13_word 136 = .ok (.goto 4, 3) := by decide +kernel
theorem dX13_word_139 : decode cX13_word 139 = .ok (.iconst 0, 1) := by decide +kernel
theorem dX13_word_140 : decode cX13_word 140 = .ok (.putfield 255, 3) := by decide +kernel
theorem dX13_word_143 : decode cX13_word 143 = .ok (.aload_n 0, 1) := by decide +kernel
theorem dX13_word_144 : decode cX13_word 144 = .ok (.dup, 1) := by decide +kernel
theorem dX13_word_145 : decode cX13_word 145 = .ok (.getfield 249, 3) := by decide +kernel
theorem dX13_word_148 : decode cX13_word 148 = .ok (.iload_n 3, 1) := by decide +kernel
theorem dX13_word_149 : decode cX13_word 149 = .ok (.ifCond .eq 7, 3) := by decide +kernel
theorem dX13_word_152 : decode cX13_word 152 = .ok (.iconst 1, 1) := by decide +kernel
theorem dX13_word_153 : decode cX13_word 153 = .ok (.goto 4, 3) := by decide +kernel
theorem dX13_word_156 : decode cX13_word 156 = .ok (.iconst 0, 1) := by decide +kernel
theorem dX13_word_157 : decode cX13_word 157 = .ok (.iadd, 1) := by decide +kernel
theorem dX13_word_158 : decode cX13_word 158 = .ok (.putfield 249, 3) := by decide +kernel
theorem dX13_word_161 : decode cX13_word 161 = .ok (.iinc 1 1, 3) := by decide +kernel
theorem dX13_word_164 : decode cX13_word 164 = .ok (.iconst 0, 1) := by decide +kernel
theorem dX13_word_165 : decode cX13_word 165 = .ok (.istore 4, 2) := by decide +kernel
theorem dX13_word_167 : decode cX13_word 167 = .ok (.iload 4, 2) := by decide +kernel
theorem dX13_word_169 : decode cX13_word 169 = .ok (.bipush 11, 2) := by decide +kernel
theorem dX13_word_171 : decode cX13_word 171 = .ok (.if_icmp .ge 48, 3) := by decide +kernel
theorem dX13_word_174 : decode cX13_word 174 = .ok (.aload_n 0, 1) := by decide +kernel
theorem dX13_word_175 : decode cX13_word 175 = .ok (.getfield 44, 3) := by decide +kernel
theorem dX13_word_178 : decode cX13_word 178 = .ok (.iload 4, 2) := by decide +kernel
theorem dX13_word_180 : decode cX13_word 180 = .ok (.iaload, 1) := by decide +kernel
theorem dX13_word_181 : decode cX13_word 181 = .ok (.iconst 1, 1) := by decide +kernel
theorem dX13_word_182 : decode cX13_word 182 = .ok (.if_icmp .ne 29, 3) := by decide +kernel
theorem dX13_word_185 : decode cX13_word 185 = .ok (.aload_n 0, 1) := by decide +kernel
theorem dX13_word_186 : decode cX13_word 186 = .ok (.getfield 50, 3) := by decide +kernel
theorem dX13_word_189 : decode cX13_word 189 = .ok (.iload 4, 2) := by decide +kernel
theorem dX13_word_191 : decode cX13_word 191 = .ok (.iaload, 1) := by decide +kernel
theorem dX13_word_192 : decode cX13_word 192 = .ok (.iload_n 1, 1) := by decide +kernel
theorem dX13_word_193 : decode cX13_word 193 = .ok (.iadd, 1) := by decide +kernel
theorem dX13_word_194 : decode cX13_word 194 = .ok (.aload_n 0, 1) := by decide +kernel
theorem dX13_word_195 : decode cX13_word 195 = .ok (.getfield 50, 3) := by decide +kernel
theorem dX13_word_198 : decode cX13_word 198 = .ok (.iload 4, 2) := by decide +kernel
theorem dX13_word_200 : decode cX13_word 200 = .ok (.iconst 1, 1) := by decide +kernel
theorem dX13_word_201 : decode cX13_word 201 = .ok (.iadd, 1) := by decide +kernel
theorem dX13_word_202 : decode cX13_word 202 = .ok (.iaload, 1) := by decide +kernel
theorem dX13_word_203 : decode cX13_word 203 = .ok (.if_icmp .ne 8, 3) := by decide +kernel
theorem dX13_word_206 : decode cX13_word 206 = .ok (.iload 4, 2) := by decide +kernel
theorem dX13_word_208 : decode cX13_word 208 = .ok (.goto 4, 3) := by decide +kernel
theorem dX13_word_211 : decode cX13_word 211 = .ok (.iload_n 2, 1) := by decide +kernel
theorem dX13_word_212 : decode cX13_word 212 = .ok (.istore_n 2, 1) := by decide +kernel
theorem dX13_word_213 : decode cX13_word 213 = .ok (.iinc 4 1, 3) := by decide +kernel
theorem dX13_word_216 : decode cX13_word 216 = .ok (.goto (-49), 3) := by decide +kernel
theorem dX13_word_219 : decode cX13_word 219 = .ok (.goto (-194), 3) := by decide +kernel
theorem dX13_word_222 : decode cX13_word 222 = .ok (.iload_n 2, 1) := by decide +kernel
theorem dX13_word_223 : decode cX13_word 223 = .ok (.ireturn, 1) := by decide +kernel
theorem dX13_types_0 : decode cX13_types 0 = .ok (.aload_n 0, 1) := by decide +kernel
theorem dX13_types_1 : decode cX13_types 1 = .ok (.iload_n 1, 1) := by decide +kernel
theorem dX13_types_2 : decode cX13_types 2 = .ok (.invokevirtual 150, 3) := by decide +kernel
theorem dX13_types_5 : decode cX13_types 5 = .ok (.istore_n 3, 1) := by decide +kernel
theorem dX13_types_6 : decode cX13_types 6 = .ok (.iload_n 2, 1) := by decide +kernel
theorem dX13_types_7 : decode cX13_types 7 = .ok (.istore 4, 2) := by decide +kernel
theorem dX13_types_9 : decode cX13_types 9 = .ok (.iload 4, 2) := by decide +kernel
theorem dX13_types_11 : decode cX13_types 11 = .ok (.aload_n 0, 1) := by decide +kernel
theorem dX13_types_12 : decode cX13_types 12 = .ok (.getfield 249, 3) := by decide +kernel
theorem dX13_types_15 : decode cX13_types 15 = .ok (.if_icmp .ge 32, 3) := by decide +kernel
theorem dX13_types_18 : decode cX13_types 18 = .ok (.aload_n 0, 1) := by decide +kernel
theorem dX13_types_19 : decode cX13_types 19 = .ok (.getfield 53, 3) := by decide +kernel
theorem dX13_types_22 : decode cX13_types 22 = .ok (.ifCond .ne 25, 3) := by decide +kernel
theorem dX13_types_25 : decode cX13_types 25 = .ok (.aload_n 0, 1) := by decide +kernel
theorem dX13_types_26 : decode cX13_types 26 = .ok (.iload_n 1, 1) := by decide +kernel
theorem dX13_types_27 : decode cX13_types 27 = .ok (.aload_n 0, 1) := by decide +kernel
theorem dX13_types_28 : decode cX13_types 28 = .ok (.getfield 38, 3) := by decide +kernel
theorem dX13_types_31 : decode cX13_types 31 = .ok (.iload 4, 2) := by decide +kernel
theorem dX13_types_33 : decode cX13_types 33 = .ok (.iaload, 1) := by decide +kernel
theorem dX13_types_34 : decode cX13_types 34 = .ok (.invokestatic 144, 3) := by decide +kernel
theorem dX13_types_37 : decode cX13_types 37 = .ok (.invokevirtual 147, 3) := by decide +kernel
theorem dX13_types_40 : decode cX13_types 40 = .ok (.istore_n 3, 1) := by decide +kernel
theorem dX13_types_41 : decode cX13_types 41 = .ok (.iinc 4 1, 3) := by decide +kernel
theorem dX13_types_44 : decode cX13_types 44 = .ok (.goto (-35), 3) := by decide +kernel
theorem dX13_types_47 : decode cX13_types 47 = .ok (.iload_n 3, 1) := by decide +kernel
theorem dX13_types_48 : decode cX13_types 48 = .ok (.ireturn, 1) := by decide +kernel
theorem dX13_does_0 : decode cX13_does 0 = .ok (.iload_n 1, 1) := by decide +kernel
theorem dX13_does_1 : decode cX13_does 1 = .ok (.tableswitch 122 0 9 #[55, 62, 69, 76, 84, 91, 98, 104, 122, 115], 55) := by decide +kernel
theorem dX13_does_56 : decode cX13_does 56 = .ok (.aload_n 0, 1) := by decide +kernel
theorem dX13_does_57 : decode cX13_does 57 = .ok (.iload_n 2, 1) := by decide +kernel
theorem dX13_does_58 : decode cX13_does 58 = .ok (.iload_n 3, 1) := by decide +kernel
theorem dX13_does_59 : decode cX13_does 59 = .ok (.invokevirtual 97, 3) := by decide +kernel
theorem dX13_does_62 : decode cX13_does 62 = .ok (.ireturn, 1) := by decide +kernel
theorem dX13_does_63 : decode cX13_does 63 = .ok (.aload_n 0, 1) := by decide +kernel
theorem dX13_does_64 : decode cX13_does 64 = .ok (.iload_n 2, 1) := by decide +kernel
theorem dX13_does_65 : decode cX13_does 65 = .ok (.iload_n 3, 1) := by decide +kernel
theorem dX13_does_66 : decode cX13_does 66 = .ok (.invokevirtual 107, 3) := by decide +kernel
theorem dX13_does_69 : decode cX13_does 69 = .ok (.ireturn, 1) := by decide +kernel
theorem dX13_does_70 : decode cX13_does 70 = .ok (.aload_n 0, 1) := by decide +kernel
theorem dX13_does_71 : decode cX13_does 71 = .ok (.iload_n 2, 1) := by decide +kernel
theorem dX13_does_72 : decode cX13_does 72 = .ok (.iload_n 3, 1) := by decide +kernel
theorem dX13_does_73 : decode cX13_does 73 = .ok (.invokevirtual 126, 3) := by decide +kernel
theorem dX13_does_76 : decode cX13_does 76 = .ok (.ireturn, 1) := by decide +kernel
theorem dX13_does_77 : decode cX13_does 77 = .ok (.aload_n 0, 1) := by decide +kernel
theorem dX13_does_78 : decode cX13_does 78 = .ok (.iload_n 2, 1) := by decide +kernel
theorem dX13_does_79 : decode cX13_does 79 = .ok (.iload 4, 2) := by decide +kernel
theorem dX13_does_81 : decode cX13_does 81 = .ok (.invokevirtual 262, 3) := by decide +kernel
theorem dX13_does_84 : decode cX13_does 84 = .ok (.ireturn, 1) := by decide +kernel
theorem dX13_does_85 : decode cX13_does 85 = .ok (.aload_n 0, 1) := by decide +kernel
theorem dX13_does_86 : decode cX13_does 86 = .ok (.iload_n 2, 1) := by decide +kernel
theorem dX13_does_87 : decode cX13_does 87 = .ok (.iload_n 3, 1) := by decide +kernel
theorem dX13_does_88 : decode cX13_does 88 = .ok (.invokevirtual 159, 3) := by decide +kernel
theorem dX13_does_91 : decode cX13_does 91 = .ok (.ireturn, 1) := by decide +kernel
theorem dX13_does_92 : decode cX13_does 92 = .ok (.aload_n 0, 1) := by decide +kernel
theorem dX13_does_93 : decode cX13_does 93 = .ok (.iload_n 2, 1) := by decide +kernel
theorem dX13_does_94 : decode cX13_does 94 = .ok (.iload_n 3, 1) := by decide +kernel
theorem dX13_does_95 : decode cX13_does 95 = .ok (.invokevirtual 162, 3) := by decide +kernel
theorem dX13_does_98 : decode cX13_does 98 = .ok (.ireturn, 1) := by decide +kernel
theorem dX13_does_99 : decode cX13_does 99 = .ok (.aload_n 0, 1) := by decide +kernel
theorem dX13_does_100 : decode cX13_does 100 = .ok (.iload_n 2, 1) := by decide +kernel
theorem dX13_does_101 : decode cX13_does 101 = .ok (.invokevirtual 168, 3) := by decide +kernel
theorem dX13_does_104 : decode cX13_does 104 = .ok (.ireturn, 1) := by decide +kernel
theorem dX13_does_105 : decode cX13_does 105 = .ok (.aload_n 0, 1) := by decide +kernel
theorem dX13_does_106 : decode cX13_does 106 = .ok (.aload_n 0, 1) := by decide +kernel
theorem dX13_does_107 : decode cX13_does 107 = .ok (.iload_n 2, 1) := by decide +kernel
theorem dX13_does_108 : decode cX13_does 108 = .ok (.invokevirtual 129, 3) := by decide +kernel
theorem dX13_does_111 : decode cX13_does 111 = .ok (.iload_n 3, 1) := by decide +kernel
theorem dX13_does_112 : decode cX13_does 112 = .ok (.invokevirtual 189, 3) := by decide +kernel
theorem dX13_does_115 : decode cX13_does 115 = .ok (.ireturn, 1) := by decide +kernel
theorem dX13_does_116 : decode cX13_does 116 = .ok (.aload_n 0, 1) := by decide +kernel
theorem dX13_does_117 : decode cX13_does 117 = .ok (.iload_n 2, 1) := by decide +kernel
theorem dX13_does_118 : decode cX13_does 118 = .ok (.iload_n 3, 1) := by decide +kernel
theorem dX13_does_119 : decode cX13_does 119 = .ok (.invokevirtual 216, 3) := by decide +kernel
theorem dX13_does_122 : decode cX13_does 122 = .ok (.ireturn, 1) := by decide +kernel
theorem dX13_does_123 : decode cX13_does 123 = .ok (.aload_n 0, 1) := by decide +kernel
theorem dX13_does_124 : decode cX13_does 124 = .ok (.iload_n 2, 1) := by decide +kernel
theorem dX13_does_125 : decode cX13_does 125 = .ok (.invokevirtual 123, 3) := by decide +kernel
theorem dX13_does_128 : decode cX13_does 128 = .ok (.ireturn, 1) := by decide +kernel
theorem dX13_command_0 : decode cX13_command 0 = .ok (.aload_n 0, 1) := by decide +kernel
theorem dX13_command_1 : decode cX13_command 1 = .ok (.invokevirtual 265, 3) := by decide +kernel
theorem dX13_command_4 : decode cX13_command 4 = .ok (.istore_n 1, 1) := by decide +kernel
theorem dX13_command_5 : decode cX13_command 5 = .ok (.iconst 0, 1) := by decide +kernel
theorem dX13_command_6 : decode cX13_command 6 = .ok (.istore_n 2, 1) := by decide +kernel
theorem dX13_command_7 : decode cX13_command 7 = .ok (.iconst 0, 1) := by decide +kernel
theorem dX13_command_8 : decode cX13_command 8 = .ok (.istore_n 3, 1) := by decide +kernel
theorem dX13_command_9 : decode cX13_command 9 = .ok (.iconst 0, 1) := by decide +kernel
theorem dX13_command_10 : decode cX13_command 10 = .ok (.istore 4, 2) := by decide +kernel
theorem dX13_command_12 : decode cX13_command 12 = .ok (.aload_n 0, 1) := by decide +kernel
theorem dX13_command_13 : decode cX13_command 13 = .ok (.getfield 255, 3) := by decide +kernel
theorem dX13_command_16 : decode cX13_command 16 = .ok (.ifCond .eq 4, 3) := by decide +kernel
theorem dX13_command_19 : decode cX13_command 19 = .ok (.return_, 1) := by decide +kernel
theorem dX13_command_20 : decode cX13_command 20 = .ok (.aload_n 0, 1) := by decide +kernel
theorem dX13_command_21 : decode cX13_command 21 = .ok (.invokevirtual 268, 3) := by decide +kernel
theorem dX13_command_24 : decode cX13_command 24 = .ok (.istore 5, 2) := by decide +kernel
theorem dX13_command_26 : decode cX13_command 26 = .ok (.iload_n 1, 1) := by decide +kernel
theorem dX13_command_27 : decode cX13_command 27 = .ok (.iconst 3, 1) := by decide +kernel
theorem dX13_command_28 : decode cX13_command 28 = .ok (.if_icmp .ne 9, 3) := by decide +kernel
theorem dX13_command_31 : decode cX13_command 31 = .ok (.aload_n 0, 1) := by decide +kernel
theorem dX13_command_32 : decode cX13_command 32 = .ok (.bipush 61, 2) := by decide +kernel
theorem dX13_command_34 : decode cX13_command 34 = .ok (.invokevirtual 271, 3) := by decide +kernel
theorem dX13_command_37 : decode cX13_command 37 = .ok (.iload_n 1, 1) := by decide +kernel
theorem dX13_command_38 : decode cX13_command 38 = .ok (.bipush 7, 2) := by decide +kernel
theorem dX13_command_40 : decode cX13_command 40 = .ok (.if_icmp .ne 9, 3) := by decide +kernel
theorem dX13_command_43 : decode cX13_command 43 = .ok (.aload_n 0, 1) := by decide +kernel
theorem dX13_command_44 : decode cX13_command 44 = .ok (.bipush 32, 2) := by decide +kernel
theorem dX13_command_46 : decode cX13_command 46 = .ok (.invokevirtual 271, 3) := by decide +kernel
theorem dX13_command_49 : decode cX13_command 49 = .ok (.iload_n 1, 1) := by decide +kernel
theorem dX13_command_50 : decode cX13_command 50 = .ok (.bipush 8, 2) := by decide +kernel
theorem dX13_command_52 : decode cX13_command 52 = .ok (.if_icmp .ne 9, 3) := by decide +kernel
theorem dX13_command_55 : decode cX13_command 55 = .ok (.aload_n 0, 1) := by decide +kernel
theorem dX13_command_56 : decode cX13_command 56 = .ok (.bipush 62, 2) := by decide +kernel
theorem dX13_command_58 : decode cX13_command 58 = .ok (.invokevirtual 271, 3) := by decide +kernel
theorem dX13_command_61 : decode cX13_command 61 = .ok (.iload_n 1, 1) := by decide +kernel
theorem dX13_command_62 : decode cX13_command 62 = .ok (.iconst 3, 1) := by decide +kernel
theorem dX13_command_63 : decode cX13_command 63 = .ok (.if_icmp .eq 20, 3) := by decide +kernel
theorem dX13_command_66 : decode cX13_command 66 = .ok (.iload_n 1, 1) := by decide +kernel
theorem dX13_command_67 : decode cX13_command 67 = .ok (.bipush 6, 2) := by decide +kernel
theorem dX13_command_69 : decode cX13_command 69 = .ok (.if_icmp .eq 14, 3) := by decide +kernel
theorem dX13_command_72 : decode cX13_command 72 = .ok (.iload_n 1, 1) := by decide +kernel
theorem dX13_command_73 : decode cX13_command 73 = .ok (.bipush 10, 2) := by decide +kernel
theorem dX13_command_75 : decode cX13_command 75 = .ok (.if_icmp .eq 8, 3) := by decide +kernel
theorem dX13_command_78 : decode cX13_command 78 = .ok (.aload_n 0, 1) := by decide +kernel
theorem dX13_command_79 : decode cX13_command 79 = .ok (.invokevirtual 268, 3) := by decide +kernel
theorem dX13_command_82 : decode cX13_command 82 = .ok (.istore_n 2, 1) := by decide +kernel
theorem dX13_command_83 : decode cX13_command 83 = .ok (.iload_n 1, 1) := by decide +kernel
theorem dX13_command_84 : decode cX13_command 84 = .ok (.bipush 8, 2) := by decide +kernel
theorem dX13_command_86 : decode cX13_command 86 = .ok (.if_icmp .ne 20, 3) := by decide +kernel
theorem dX13_command_89 : decode cX13_command 89 = .ok (.aload_n 0, 1) := by decide +kernel
theorem dX13_command_90 : decode cX13_command 90 = .ok (.invokevirtual 268, 3) := by decide +kernel
theorem dX13_command_93 : decode cX13_command 93 = .ok (.istore_n 3, 1) := by decide +kernel
theorem dX13_command_94 : decode cX13_command 94 = .ok (.aload_n 0, 1) := by decide +kernel
theorem dX13_command_95 : decode cX13_command 95 = .ok (.bipush 32, 2) := by decide +kernel
theorem dX13_command_97 : decode cX13_command 97 = .ok (.invokevirtual 271, 3) := by decide +kernel
theorem dX13_command_100 : decode cX13_command 100 = .ok (.aload_n 0, 1) := by decide +kernel
theorem dX13_command_101 : decode cX13_command 101 = .ok (.invokevirtual 268, 3) := by decide +kernel
theorem dX13_command_104 : decode cX13_command 104 = .ok (.istore 4, 2) := by decide +kernel
theorem dX13_command_106 : decode cX13_command 106 = .ok (.aload_n 0, 1) := by decide +kernel
theorem dX13_command_107 : decode cX13_command 107 = .ok (.getfield 249, 3) := by decide +kernel
theorem dX13_command_110 : decode cX13_command 110 = .ok (.istore 6, 2) := by decide +kernel
theorem dX13_command_112 : decode cX13_command 112 = .ok (.iload_n 1, 1) := by decide +kernel
theorem dX13_command_113 : decode cX13_command 113 = .ok (.iconst 3, 1) := by decide +kernel
theorem dX13_command_114 : decode cX13_command 114 = .ok (.if_icmp .ne 33, 3) := by decide +kernel
theorem dX13_command_117 : decode cX13_command 117 = .ok (.aload_n 0, 1) := by decide +kernel
theorem dX13_command_118 : decode cX13_command 118 = .ok (.getfield 255, 3) := by decide +kernel
theorem dX13_command_121 : decode cX13_command 121 = .ok (.ifCond .ne 26, 3) := by decide +kernel
theorem dX13_command_124 : decode cX13_command 124 = .ok (.aload_n 0, 1) := by decide +kernel
theorem dX13_command_125 : decode cX13_command 125 = .ok (.invokevirtual 259, 3) := by decide +kernel
theorem dX13_command_128 : decode cX13_command 128 = .ok (.invokestatic 144, 3) := by decide +kernel
theorem dX13_command_131 : decode cX13_command 131 = .ok (.ifCond .lt 16, 3) := by decide +kernel
theorem dX13_command_134 : decode cX13_command 134 = .ok (.aload_n 0, 1) := by decide +kernel
theorem dX13_command_135 : decode cX13_command 135 = .ok (.dup, 1) := by decide +kernel
theorem dX13_command_136 : decode cX13_command 136 = .ok (.getfield 249, 3) := by decide +kernel
theorem dX13_command_139 : decode cX13_command 139 = .ok (.iconst 1, 1) := by decide +kernel
theorem dX13_command_140 : decode cX13_command 140 = .ok (.iadd, 1) := by decide +kernel
theorem dX13_command_141 : decode cX13_command 141 = .ok (.putfield 249, 3) := by decide +kernel
theorem dX13_command_144 : decode cX13_command 144 = .ok (.goto (-32), 3) := by decide +kernel
theorem dX13_command_147 : decode cX13_command 147 = .ok (.aload_n 0, 1) := by decide +kernel
theorem dX13_command_148 : decode cX13_command 148 = .ok (.getfield 255, 3) := by decide +kernel
theorem dX13_command_151 : decode cX13_command 151 = .ok (.ifCond .ne 10, 3) := by decide +kernel
theorem dX13_command_154 : decode cX13_command 154 = .ok (.aload_n 0, 1) := by decide +kernel
theorem dX13_command_155 : decode cX13_command 155 = .ok (.getfield 275, 3) := by decide +kernel
theorem dX13_command_158 : decode cX13_command 158 = .ok (.ifCond .ne 4, 3) := by decide +kernel
theorem dX13_command_161 : decode cX13_command 161 = .ok (.return_, 1) := by decide +kernel
theorem dX13_command_162 : decode cX13_command 162 = .ok (.iload_n 1, 1) := by decide +kernel
theorem dX13_command_163 : decode cX13_command 163 = .ok (.bipush 8, 2) := by decide +kernel
theorem dX13_command_165 : decode cX13_command 165 = .ok (.if_icmp .ne 20, 3) := by decide +kernel
theorem dX13_command_168 : decode cX13_command 168 = .ok (.aload_n 0, 1) := by decide +kernel
theorem dX13_command_169 : decode cX13_command 169 = .ok (.aload_n 0, 1) := by decide +kernel
theorem dX13_command_170 : decode cX13_command 170 = .ok (.iload 5, 2) := by decide +kernel
theorem dX13_command_172 : decode cX13_command 172 = .ok (.invokevirtual 129, 3) := by decide +kernel
theorem dX13_command_175 : decode cX13_command 175 = .ok (.iload_n 2, 1) := by decide +kernel
theorem dX13_command_176 : decode cX13_command 176 = .ok (.iload_n 3, 1) := by decide +kernel
theorem dX13_command_177 : decode cX13_command 177 = .ok (.iload 4, 2) := by decide +kernel
theorem dX13_command_179 : decode cX13_command 179 = .ok (.invokevirtual 213, 3) := by decide +kernel
theorem dX13_command_182 : decode cX13_command 182 = .ok (.goto 13, 3) := by decide +kernel
theorem dX13_command_185 : decode cX13_command 185 = .ok (.aload_n 0, 1) := by decide +kernel
theorem dX13_command_186 : decode cX13_command 186 = .ok (.iload_n 1, 1) := by decide +kernel
theorem dX13_command_187 : decode cX13_command 187 = .ok (.iload 5, 2) := by decide +kernel
theorem dX13_command_189 : decode cX13_command 189 = .ok (.iload_n 2, 1) := by decide +kernel
theorem dX13_command_190 : decode cX13_command 190 = .ok (.iload 6, 2) := by decide +kernel
theorem dX13_command_192 : decode cX13_command 192 = .ok (.invokevirtual 278, 3) := by decide +kernel
theorem dX13_command_195 : decode cX13_command 195 = .ok (.istore 7, 2) := by decide +kernel
theorem dX13_command_197 : decode cX13_command 197 = .ok (.return_, 1) := by decide +kernel
theorem dX13_commands_0 : decode cX13_commands 0 = .ok (.aload_n 0, 1) := by decide +kernel
theorem dX13_commands_1 : decode cX13_commands 1 = .ok (.iconst 0, 1) := by decide +kernel
theorem dX13_commands_2 : decode cX13_commands 2 = .ok (.putfield 249, 3) := by decide +kernel
theorem dX13_commands_5 : decode cX13_commands 5 = .ok (.aload_n 0, 1) := by decide +kernel
theorem dX13_commands_6 : decode cX13_commands 6 = .ok (.iconst 0, 1) := by decide +kernel
theorem dX13_commands_7 : decode cX13_commands 7 = .ok (.putfield 255, 3) := by decide +kernel
theorem dX13_commands_10 : decode cX13_commands 10 = .ok (.iconst 1, 1) := by decide +kernel
theorem dX13_commands_11 : decode cX13_commands 11 = .ok (.istore_n 1, 1) := by decide +kernel
theorem dX13_commands_12 : decode cX13_commands 12 = .ok (.aload_n 0, 1) := by decide +kernel
theorem dX13_commands_13 : decode cX13_commands 13 = .ok (.invokevirtual 281, 3) := by decide +kernel
theorem dX13_commands_16 : decode cX13_commands 16 = .ok (.aload_n 0, 1) := by decide +kernel
theorem dX13_commands_17 : decode cX13_commands 17 = .ok (.getfield 255, 3) := by decide +kernel
theorem dX13_commands_20 : decode cX13_commands 20 = .ok (.ifCond .ne 44, 3) := by decide +kernel
theorem dX13_commands_23 : decode cX13_commands 23 = .ok (.aload_n 0, 1) := by decide +kernel
theorem dX13_commands_24 : decode cX13_commands 24 = .ok (.getfield 53, 3) := by decide +kernel
theorem dX13_commands_27 : decode cX13_commands 27 = .ok (.ifCond .ne 37, 3) := by decide +kernel
theorem dX13_commands_30 : decode cX13_commands 30 = .ok (.aload_n 0, 1) := by decide +kernel
theorem dX13_commands_31 : decode cX13_commands 31 = .ok (.getfield 249, 3) := by decide +kernel
theorem dX13_commands_34 : decode cX13_commands 34 = .ok (.aload_n 0, 1) := by decide +kernel
theorem dX13_commands_35 : decode cX13_commands 35 = .ok (.getfield 252, 3) := by decide +kernel
theorem dX13_commands_38 : decode cX13_commands 38 = .ok (.if_icmp .ge 26, 3) := by decide +kernel
theorem dX13_commands_41 : decode cX13_commands 41 = .ok (.aload_n 0, 1) := by decide +kernel
theorem dX13_commands_42 : decode cX13_commands 42 = .ok (.bipush 59, 2) := by decide +kernel
theorem dX13_commands_44 : decode cX13_commands 44 = .ok (.invokevirtual 271, 3) := by decide +kernel
theorem dX13_commands_47 : decode cX13_commands 47 = .ok (.aload_n 0, 1) := by decide +kernel
theorem dX13_commands_48 : decode cX13_commands 48 = .ok (.getfield 255, 3) := by decide +kernel
theorem dX13_commands_51 : decode cX13_commands 51 = .ok (.ifCond .ne 7, 3) := by decide +kernel
theorem dX13_commands_54 : decode cX13_commands 54 = .ok (.aload_n 0, 1) := by decide +kernel
theorem dX13_commands_55 : decode cX13_commands 55 = .ok (.invokevirtual 281, 3) := by decide +kernel
theorem dX13_commands_58 : decode cX13_commands 58 = .ok (.iinc 1 1, 3) := by decide +kernel
theorem dX13_commands_61 : decode cX13_commands 61 = .ok (.goto (-45), 3) := by decide +kernel
theorem dX13_commands_64 : decode cX13_commands 64 = .ok (.iload_n 1, 1) := by decide +kernel
theorem dX13_commands_65 : decode cX13_commands 65 = .ok (.ireturn, 1) := by decide +kernel
theorem dX13_run_0 : decode cX13_run 0 = .ok (.aload_n 0, 1) := by decide +kernel
theorem dX13_run_1 : decode cX13_run 1 = .ok (.invokevirtual 94, 3) := by decide +kernel
theorem dX13_run_4 : decode cX13_run 4 = .ok (.aload_n 0, 1) := by decide +kernel
theorem dX13_run_5 : decode cX13_run 5 = .ok (.aload_n 0, 1) := by decide +kernel
theorem dX13_run_6 : decode cX13_run 6 = .ok (.getfield 246, 3) := by decide +kernel
theorem dX13_run_9 : decode cX13_run 9 = .ok (.putfield 252, 3) := by decide +kernel
theorem dX13_run_12 : decode cX13_run 12 = .ok (.aload_n 0, 1) := by decide +kernel
theorem dX13_run_13 : decode cX13_run 13 = .ok (.iconst 0, 1) := by decide +kernel
theorem dX13_run_14 : decode cX13_run 14 = .ok (.putfield 246, 3) := by decide +kernel
theorem dX13_run_17 : decode cX13_run 17 = .ok (.aload_n 0, 1) := by decide +kernel
theorem dX13_run_18 : decode cX13_run 18 = .ok (.iconst 0, 1) := by decide +kernel
theorem dX13_run_19 : decode cX13_run 19 = .ok (.putfield 275, 3) := by decide +kernel
theorem dX13_run_22 : decode cX13_run 22 = .ok (.aload_n 0, 1) := by decide +kernel
theorem dX13_run_23 : decode cX13_run 23 = .ok (.invokevirtual 284, 3) := by decide +kernel
theorem dX13_run_26 : decode cX13_run 26 = .ok (.istore_n 1, 1) := by decide +kernel
theorem dX13_run_27 : decode cX13_run 27 = .ok (.aload_n 0, 1) := by decide +kernel
theorem dX13_run_28 : decode cX13_run 28 = .ok (.getfield 255, 3) := by decide +kernel
theorem dX13_run_31 : decode cX13_run 31 = .ok (.ifCond .eq 17, 3) := by decide +kernel
theorem dX13_run_34 : decode cX13_run 34 = .ok (.aload_n 0, 1) := by decide +kernel
theorem dX13_run_35 : decode cX13_run 35 = .ok (.aload_n 0, 1) := by decide +kernel
theorem dX13_run_36 : decode cX13_run 36 = .ok (.getfield 249, 3) := by decide +kernel
theorem dX13_run_39 : decode cX13_run 39 = .ok (.putfield 7, 3) := by decide +kernel
theorem dX13_run_42 : decode cX13_run 42 = .ok (.aload_n 0, 1) := by decide +kernel
theorem dX13_run_43 : decode cX13_run 43 = .ok (.iconst 1, 1) := by decide +kernel
theorem dX13_run_44 : decode cX13_run 44 = .ok (.invokevirtual 88, 3) := by decide +kernel
theorem dX13_run_47 : decode cX13_run 47 = .ok (.ireturn, 1) := by decide +kernel
theorem dX13_run_48 : decode cX13_run 48 = .ok (.aload_n 0, 1) := by decide +kernel
theorem dX13_run_49 : decode cX13_run 49 = .ok (.iconst 1, 1) := by decide +kernel
theorem dX13_run_50 : decode cX13_run 50 = .ok (.putfield 275, 3) := by decide +kernel
theorem dX13_run_53 : decode cX13_run 53 = .ok (.aload_n 0, 1) := by decide +kernel
theorem dX13_run_54 : decode cX13_run 54 = .ok (.invokevirtual 284, 3) := by decide +kernel
theorem dX13_run_57 : decode cX13_run 57 = .ok (.istore_n 1, 1) := by decide +kernel
theorem dX13_run_58 : decode cX13_run 58 = .ok (.aload_n 0, 1) := by decide +kernel
theorem dX13_run_59 : decode cX13_run 59 = .ok (.getfield 53, 3) := by decide +kernel
theorem dX13_run_62 : decode cX13_run 62 = .ok (.ifCond .eq 15, 3) := by decide +kernel
theorem dX13_run_65 : decode cX13_run 65 = .ok (.aload_n 0, 1) := by decide +kernel
theorem dX13_run_66 : decode cX13_run 66 = .ok (.iload_n 1, 1) := by decide +kernel
theorem dX13_run_67 : decode cX13_run 67 = .ok (.iconst 1, 1) := by decide +kernel
theorem dX13_run_68 : decode cX13_run 68 = .ok (.isub, 1) := by decide +kernel
theorem dX13_run_69 : decode cX13_run 69 = .ok (.putfield 13, 3) := by decide +kernel
theorem dX13_run_72 : decode cX13_run 72 = .ok (.aload_n 0, 1) := by decide +kernel
theorem dX13_run_73 : decode cX13_run 73 = .ok (.iconst 2, 1) := by decide +kernel
theorem dX13_run_74 : decode cX13_run 74 = .ok (.putfield 53, 3) := by decide +kernel
theorem dX13_run_77 : decode cX13_run 77 = .ok (.aload_n 0, 1) := by decide +kernel
theorem dX13_run_78 : decode cX13_run 78 = .ok (.iload_n 1, 1) := by decide +kernel
theorem dX13_run_79 : decode cX13_run 79 = .ok (.invokevirtual 100, 3) := by decide +kernel
theorem dX13_run_82 : decode cX13_run 82 = .ok (.ireturn, 1) := by decide +kernel
theorem dX13_errorPosition_0 : decode cX13_errorPosition 0 = .ok (.aload_n 0, 1) := by decide +kernel
theorem dX13_errorPosition_1 : decode cX13_errorPosition 1 = .ok (.aload_n 0, 1) := by decide +kernel
theorem dX13_errorPosition_2 : decode cX13_errorPosition 2 = .ok (.getfield 7, 3) := by decide +kernel
theorem dX13_errorPosition_5 : decode cX13_errorPosition 5 = .ok (.ifCond .ge 7, 3) := by decide +kernel
theorem dX13_errorPosition_8 : decode cX13_errorPosition 8 = .ok (.iconst 1, 1) := by decide +kernel
theorem dX13_errorPosition_9 : decode cX13_errorPosition 9 = .ok (.goto 4, 3) := by decide +kernel
theorem dX13_errorPosition_12 : decode cX13_errorPosition 12 = .ok (.iconst 0, 1) := by decide +kernel
theorem dX13_errorPosition_13 : decode cX13_errorPosition 13 = .ok (.putfield 53, 3) := by decide +kernel
theorem dX13_errorPosition_16 : decode cX13_errorPosition 16 = .ok (.aload_n 0, 1) := by decide +kernel
theorem dX13_errorPosition_17 : decode cX13_errorPosition 17 = .ok (.getfield 53, 3) := by decide +kernel
theorem dX13_errorPosition_20 : decode cX13_errorPosition 20 = .ok (.ifCond .ne 10, 3) := by decide +kernel
theorem dX13_errorPosition_23 : decode cX13_errorPosition 23 = .ok (.aload_n 0, 1) := by decide +kernel
theorem dX13_errorPosition_24 : decode cX13_errorPosition 24 = .ok (.getfield 7, 3) := by decide +kernel
theorem dX13_errorPosition_27 : decode cX13_errorPosition 27 = .ok (.goto 4, 3) := by decide +kernel
theorem dX13_errorPosition_30 : decode cX13_errorPosition 30 = .ok (.iconst 0, 1) := by decide +kernel
theorem dX13_errorPosition_31 : decode cX13_errorPosition 31 = .ok (.ireturn, 1) := by decide +kernel
theorem dX13_failedCommand_0 : decode cX13_failedCommand 0 = .ok (.aload_n 0, 1) := by decide +kernel
theorem dX13_failedCommand_1 : decode cX13_failedCommand 1 = .ok (.aload_n 0, 1) := by decide +kernel
theorem dX13_failedCommand_2 : decode cX13_failedCommand 2 = .ok (.getfield 13, 3) := by decide +kernel
theorem dX13_failedCommand_5 : decode cX13_failedCommand 5 = .ok (.ifCond .ge 7, 3) := by decide +kernel
theorem dX13_failedCommand_8 : decode cX13_failedCommand 8 = .ok (.iconst 1, 1) := by decide +kernel
theorem dX13_failedCommand_9 : decode cX13_failedCommand 9 = .ok (.goto 4, 3) := by decide +kernel
theorem dX13_failedCommand_12 : decode cX13_failedCommand 12 = .ok (.iconst 0, 1) := by decide +kernel
theorem dX13_failedCommand_13 : decode cX13_failedCommand 13 = .ok (.putfield 53, 3) := by decide +kernel
theorem dX13_failedCommand_16 : decode cX13_failedCommand 16 = .ok (.aload_n 0, 1) := by decide +kernel
theorem dX13_failedCommand_17 : decode cX13_failedCommand 17 = .ok (.getfield 53, 3) := by decide +kernel
theorem dX13_failedCommand_20 : decode cX13_failedCommand 20 = .ok (.ifCond .ne 10, 3) := by decide +kernel
theorem dX13_failedCommand_23 : decode cX13_failedCommand 23 = .ok (.aload_n 0, 1) := by decide +kernel
theorem dX13_failedCommand_24 : decode cX13_failedCommand 24 = .ok (.getfield 13, 3) := by decide +kernel
theorem dX13_failedCommand_27 : decode cX13_failedCommand 27 = .ok (.goto 4, 3) := by decide +kernel
theorem dX13_failedCommand_30 : decode cX13_failedCommand 30 = .ok (.iconst 0, 1) := by decide +kernel
theorem dX13_failedCommand_31 : decode cX13_failedCommand 31 = .ok (.ireturn, 1) := by decide +kernel
theorem dX13_writes_0 : decode cX13_writes 0 = .ok (.aload_n 0, 1) := by decide +kernel
theorem dX13_writes_1 : decode cX13_writes 1 = .ok (.getfield 41, 3) := by decide +kernel
theorem dX13_writes_4 : decode cX13_writes 4 = .ok (.aload_n 0, 1) := by decide +kernel
theorem dX13_writes_5 : decode cX13_writes 5 = .ok (.getfield 287, 3) := by decide +kernel
theorem dX13_writes_8 : decode cX13_writes 8 = .ok (.iload_n 1, 1) := by decide +kernel
theorem dX13_writes_9 : decode cX13_writes 9 = .ok (.iastore, 1) := by decide +kernel
theorem dX13_writes_10 : decode cX13_writes 10 = .ok (.aload_n 0, 1) := by decide +kernel
theorem dX13_writes_11 : decode cX13_writes 11 = .ok (.dup, 1) := by decide +kernel
theorem dX13_writes_12 : decode cX13_writes 12 = .ok (.getfield 287, 3) := by decide +kernel
theorem dX13_writes_15 : decode cX13_writes 15 = .ok (.iconst 1, 1) := by decide +kernel
theorem dX13_writes_16 : decode cX13_writes 16 = .ok (.iadd, 1) := by decide +kernel
theorem dX13_writes_17 : decode cX13_writes 17 = .ok (.putfield 287, 3) := by decide +kernel
theorem dX13_writes_20 : decode cX13_writes 20 = .ok (.return_, 1) := by decide +kernel
theorem dX13_shown_0 : decode cX13_shown 0 = .ok (.iconst 0, 1) := by decide +kernel
theorem dX13_shown_1 : decode cX13_shown 1 = .ok (.istore_n 2, 1) := by decide +kernel
theorem dX13_shown_2 : decode cX13_shown 2 = .ok (.iload_n 2, 1) := by decide +kernel
theorem dX13_shown_3 : decode cX13_shown 3 = .ok (.aload_n 0, 1) := by decide +kernel
theorem dX13_shown_4 : decode cX13_shown 4 = .ok (.getfield 16, 3) := by decide +kernel
theorem dX13_shown_7 : decode cX13_shown 7 = .ok (.iconst 3, 1) := by decide +kernel
theorem dX13_shown_8 : decode cX13_shown 8 = .ok (.iaload, 1) := by decide +kernel
theorem dX13_shown_9 : decode cX13_shown 9 = .ok (.if_icmp .ge 35, 3) := by decide +kernel
theorem dX13_shown_12 : decode cX13_shown 12 = .ok (.aload_n 0, 1) := by decide +kernel
theorem dX13_shown_13 : decode cX13_shown 13 = .ok (.iload_n 2, 1) := by decide +kernel
theorem dX13_shown_14 : decode cX13_shown 14 = .ok (.invokevirtual 81, 3) := by decide +kernel
theorem dX13_shown_17 : decode cX13_shown 17 = .ok (.iload_n 1, 1) := by decide +kernel
theorem dX13_shown_18 : decode cX13_shown 18 = .ok (.if_icmp .ne 20, 3) := by decide +kernel
theorem dX13_shown_21 : decode cX13_shown 21 = .ok (.bipush 48, 2) := by decide +kernel
theorem dX13_shown_23 : decode cX13_shown 23 = .ok (.aload_n 0, 1) := by decide +kernel
theorem dX13_shown_24 : decode cX13_shown 24 = .ok (.getfield 16, 3) := by decide +kernel
theorem dX13_shown_27 : decode cX13_shown 27 = .ok (.iload_n 2, 1) := by decide +kernel
theorem dX13_shown_28 : decode cX13_shown 28 = .ok (.iconst 0, 1) := by decide +kernel
theorem dX13_shown_29 : decode cX13_shown 29 = .ok (.invokestatic 74, 3) := by decide +kernel
theorem dX13_shown_32 : decode cX13_shown 32 = .ok (.iaload, 1) := by decide +kernel
theorem dX13_shown_33 : decode cX13_shown 33 = .ok (.bipush 10, 2) := by decide +kernel
theorem dX13_shown_35 : decode cX13_shown 35 = .ok (.irem, 1) := by decide +kernel
theorem dX13_shown_36 : decode cX13_shown 36 = .ok (.iadd, 1) := by decide +kernel
theorem dX13_shown_37 : decode cX13_shown 37 = .ok (.ireturn, 1) := by decide +kernel
theorem dX13_shown_38 : decode cX13_shown 38 = .ok (.iinc 2 1, 3) := by decide +kernel
theorem dX13_shown_41 : decode cX13_shown 41 = .ok (.goto (-39), 3) := by decide +kernel
theorem dX13_shown_44 : decode cX13_shown 44 = .ok (.aload_n 0, 1) := by decide +kernel
theorem dX13_shown_45 : decode cX13_shown 45 = .ok (.iload_n 1, 1) := by decide +kernel
theorem dX13_shown_46 : decode cX13_shown 46 = .ok (.iconst (-1), 1) := by decide +kernel
theorem dX13_shown_47 : decode cX13_shown 47 = .ok (.invokevirtual 91, 3) := by decide +kernel
theorem dX13_shown_50 : decode cX13_shown 50 = .ok (.ifCond .eq 6, 3) := by decide +kernel
theorem dX13_shown_53 : decode cX13_shown 53 = .ok (.bipush 126, 2) := by decide +kernel
theorem dX13_shown_55 : decode cX13_shown 55 = .ok (.ireturn, 1) := by decide +kernel
theorem dX13_shown_56 : decode cX13_shown 56 = .ok (.aload_n 0, 1) := by decide +kernel
theorem dX13_shown_57 : decode cX13_shown 57 = .ok (.getfield 16, 3) := by decide +kernel
theorem dX13_shown_60 : decode cX13_shown 60 = .ok (.bipush 7, 2) := by decide +kernel
theorem dX13_shown_62 : decode cX13_shown 62 = .ok (.iload_n 1, 1) := by decide +kernel
theorem dX13_shown_63 : decode cX13_shown 63 = .ok (.iadd, 1) := by decide +kernel
theorem dX13_shown_64 : decode cX13_shown 64 = .ok (.iaload, 1) := by decide +kernel
theorem dX13_shown_65 : decode cX13_shown 65 = .ok (.iconst 1, 1) := by decide +kernel
theorem dX13_shown_66 : decode cX13_shown 66 = .ok (.if_icmp .ne 8, 3) := by decide +kernel
theorem dX13_shown_69 : decode cX13_shown 69 = .ok (.bipush 35, 2) := by decide +kernel
theorem dX13_shown_71 : decode cX13_shown 71 = .ok (.goto 23, 3) := by decide +kernel
theorem dX13_shown_74 : decode cX13_shown 74 = .ok (.aload_n 0, 1) := by decide +kernel
theorem dX13_shown_75 : decode cX13_shown 75 = .ok (.getfield 16, 3) := by decide +kernel
theorem dX13_shown_78 : decode cX13_shown 78 = .ok (.bipush 7, 2) := by decide +kernel
theorem dX13_shown_80 : decode cX13_shown 80 = .ok (.iload_n 1, 1) := by decide +kernel
theorem dX13_shown_81 : decode cX13_shown 81 = .ok (.iadd, 1) := by decide +kernel
theorem dX13_shown_82 : decode cX13_shown 82 = .ok (.iaload, 1) := by decide +kernel
theorem dX13_shown_83 : decode cX13_shown 83 = .ok (.iconst 2, 1) := by decide +kernel
theorem dX13_shown_84 : decode cX13_shown 84 = .ok (.if_icmp .ne 8, 3) := by decide +kernel
theorem dX13_shown_87 : decode cX13_shown 87 = .ok (.bipush 39, 2) := by decide +kernel
theorem dX13_shown_89 : decode cX13_shown 89 = .ok (.goto 5, 3) := by decide +kernel
theorem dX13_shown_92 : decode cX13_shown 92 = .ok (.bipush 46, 2) := by decide +kernel
theorem dX13_shown_94 : decode cX13_shown 94 = .ok (.ireturn, 1) := by decide +kernel
theorem dX13_describeRow_0 : decode cX13_describeRow 0 = .ok (.aload_n 0, 1) := by decide +kernel
theorem dX13_describeRow_1 : decode cX13_describeRow 1 = .ok (.iload_n 1, 1) := by decide +kernel
theorem dX13_describeRow_2 : decode cX13_describeRow 2 = .ok (.iconst 0, 1) := by decide +kernel
theorem dX13_describeRow_3 : decode cX13_describeRow 3 = .ok (.bipush 8, 2) := by decide +kernel
theorem dX13_describeRow_5 : decode cX13_describeRow 5 = .ok (.invokestatic 63, 3) := by decide +kernel
theorem dX13_describeRow_8 : decode cX13_describeRow 8 = .ok (.ifCond .eq 7, 3) := by decide +kernel
theorem dX13_describeRow_11 : decode cX13_describeRow 11 = .ok (.iconst 0, 1) := by decide +kernel
theorem dX13_describeRow_12 : decode cX13_describeRow 12 = .ok (.goto 4, 3) := by decide +kernel
theorem dX13_describeRow_15 : decode cX13_describeRow 15 = .ok (.iconst 1, 1) := by decide +kernel
theorem dX13_describeRow_16 : decode cX13_describeRow 16 = .ok (.putfield 53, 3) := by decide +kernel
theorem dX13_describeRow_19 : decode cX13_describeRow 19 = .ok (.aload_n 0, 1) := by decide +kernel
theorem dX13_describeRow_20 : decode cX13_describeRow 20 = .ok (.getfield 53, 3) := by decide +kernel
theorem dX13_describeRow_23 : decode cX13_describeRow 23 = .ok (.ifCond .eq 5, 3) := by decide +kernel
theorem dX13_describeRow_26 : decode cX13_describeRow 26 = .ok (.iconst 0, 1) := by decide +kernel
theorem dX13_describeRow_27 : decode cX13_describeRow 27 = .ok (.ireturn, 1) := by decide +kernel
theorem dX13_describeRow_28 : decode cX13_describeRow 28 = .ok (.aload_n 0, 1) := by decide +kernel
theorem dX13_describeRow_29 : decode cX13_describeRow 29 = .ok (.iconst 0, 1) := by decide +kernel
theorem dX13_describeRow_30 : decode cX13_describeRow 30 = .ok (.putfield 287, 3) := by decide +kernel
theorem dX13_describeRow_33 : decode cX13_describeRow 33 = .ok (.iconst 0, 1) := by decide +kernel
theorem dX13_describeRow_34 : decode cX13_describeRow 34 = .ok (.istore_n 2, 1) := by decide +kernel
theorem dX13_describeRow_35 : decode cX13_describeRow 35 = .ok (.iload_n 2, 1) := by decide +kernel
theorem dX13_describeRow_36 : decode cX13_describeRow 36 = .ok (.bipush 9, 2) := by decide +kernel
theorem dX13_describeRow_38 : decode cX13_describeRow 38 = .ok (.if_icmp .ge 22, 3) := by decide +kernel
theorem dX13_describeRow_41 : decode cX13_describeRow 41 = .ok (.aload_n 0, 1) := by decide +kernel
theorem dX13_describeRow_42 : decode cX13_describeRow 42 = .ok (.aload_n 0, 1) := by decide +kernel
theorem dX13_describeRow_43 : decode cX13_describeRow 43 = .ok (.iload_n 2, 1) := by decide +kernel
theorem dX13_describeRow_44 : decode cX13_describeRow 44 = .ok (.iload_n 1, 1) := by decide +kernel
theorem dX13_describeRow_45 : decode cX13_describeRow 45 = .ok (.invokestatic 78, 3) := by decide +kernel
theorem dX13_describeRow_48 : decode cX13_describeRow 48 = .ok (.invokevirtual 290, 3) := by decide +kernel
theorem dX13_describeRow_51 : decode cX13_describeRow 51 = .ok (.invokevirtual 293, 3) := by decide +kernel
theorem dX13_describeRow_54 : decode cX13_describeRow 54 = .ok (.iinc 2 1, 3) := by decide +kernel
theorem dX13_describeRow_57 : decode cX13_describeRow 57 = .ok (.goto (-22), 3) := by decide +kernel
theorem dX13_describeRow_60 : decode cX13_describeRow 60 = .ok (.aload_n 0, 1) := by decide +kernel
theorem dX13_describeRow_61 : decode cX13_describeRow 61 = .ok (.getfield 287, 3) := by decide +kernel
theorem dX13_describeRow_64 : decode cX13_describeRow 64 = .ok (.ireturn, 1) := by decide +kernel
theorem dX13_describePlan_0 : decode cX13_describePlan 0 = .ok (.aload_n 0, 1) := by decide +kernel
theorem dX13_describePlan_1 : decode cX13_describePlan 1 = .ok (.iload_n 1, 1) := by decide +kernel
theorem dX13_describePlan_2 : decode cX13_describePlan 2 = .ok (.invokestatic 138, 3) := by decide +kernel
theorem dX13_describePlan_5 : decode cX13_describePlan 5 = .ok (.ifCond .eq 7, 3) := by decide +kernel
theorem dX13_describePlan_8 : decode cX13_describePlan 8 = .ok (.iconst 0, 1) := by decide +kernel
theorem dX13_describePlan_9 : decode cX13_describePlan 9 = .ok (.goto 4, 3) := by decide +kernel
theorem dX13_describePlan_12 : decode cX13_describePlan 12 = .ok (.iconst 1, 1) := by decide +kernel
theorem dX13_describePlan_13 : decode cX13_describePlan 13 = .ok (.putfield 53, 3) := by decide +kernel
theorem dX13_describePlan_16 : decode cX13_describePlan 16 = .ok (.aload_n 0, 1) := by decide +kernel
theorem dX13_describePlan_17 : decode cX13_describePlan 17 = .ok (.getfield 53, 3) := by decide +kernel
theorem dX13_describePlan_20 : decode cX13_describePlan 20 = .ok (.ifCond .eq 5, 3) := by decide +kernel
theorem dX13_describePlan_23 : decode cX13_describePlan 23 = .ok (.iconst 0, 1) := by decide +kernel
theorem dX13_describePlan_24 : decode cX13_describePlan 24 = .ok (.ireturn, 1) := by decide +kernel
theorem dX13_describePlan_25 : decode cX13_describePlan 25 = .ok (.aload_n 0, 1) := by decide +kernel
theorem dX13_describePlan_26 : decode cX13_describePlan 26 = .ok (.iconst 0, 1) := by decide +kernel
theorem dX13_describePlan_27 : decode cX13_describePlan 27 = .ok (.putfield 287, 3) := by decide +kernel
theorem dX13_describePlan_30 : decode cX13_describePlan 30 = .ok (.iconst 0, 1) := by decide +kernel
theorem dX13_describePlan_31 : decode cX13_describePlan 31 = .ok (.istore_n 2, 1) := by decide +kernel
theorem dX13_describePlan_32 : decode cX13_describePlan 32 = .ok (.iload_n 2, 1) := by decide +kernel
theorem dX13_describePlan_33 : decode cX13_describePlan 33 = .ok (.aload_n 0, 1) := by decide +kernel
theorem dX13_describePlan_34 : decode cX13_describePlan 34 = .ok (.getfield 16, 3) := by decide +kernel
theorem dX13_describePlan_37 : decode cX13_describePlan 37 = .ok (.bipush 104, 2) := by decide +kernel
theorem dX13_describePlan_39 : decode cX13_describePlan 39 = .ok (.iload_n 1, 1) := by decide +kernel
theorem dX13_describePlan_40 : decode cX13_describePlan 40 = .ok (.iadd, 1) := by decide +kernel
theorem dX13_describePlan_41 : decode cX13_describePlan 41 = .ok (.iaload, 1) := by decide +kernel
theorem dX13_describePlan_42 : decode cX13_describePlan 42 = .ok (.if_icmp .ge 101, 3) := by decide +kernel
theorem dX13_describePlan_45 : decode cX13_describePlan 45 = .ok (.aload_n 0, 1) := by decide +kernel
theorem dX13_describePlan_46 : decode cX13_describePlan 46 = .ok (.getfield 16, 3) := by decide +kernel
theorem dX13_describePlan_49 : decode cX13_describePlan 49 = .ok (.iload_n 1, 1) := by decide +kernel
theorem dX13_describePlan_50 : decode cX13_describePlan 50 = .ok (.iload_n 2, 1) := by decide +kernel
theorem dX13_describePlan_51 : decode cX13_describePlan 51 = .ok (.invokestatic 141, 3) := by decide +kernel
theorem dX13_describePlan_54 : decode cX13_describePlan 54 = .ok (.iaload, 1) := by decide +kernel
theorem dX13_describePlan_55 : decode cX13_describePlan 55 = .ok (.istore_n 3, 1) := by decide +kernel
theorem dX13_describePlan_56 : decode cX13_describePlan 56 = .ok (.iconst 0, 1) := by decide +kernel
theorem dX13_describePlan_57 : decode cX13_describePlan 57 = .ok (.istore 4, 2) := by decide +kernel
theorem dX13_describePlan_59 : decode cX13_describePlan 59 = .ok (.iload_n 2, 1) := by decide +kernel
theorem dX13_describePlan_60 : decode cX13_describePlan 60 = .ok (.aload_n 0, 1) := by decide +kernel
theorem dX13_describePlan_61 : decode cX13_describePlan 61 = .ok (.getfield 16, 3) := by decide +kernel
theorem dX13_describePlan_64 : decode cX13_describePlan 64 = .ok (.bipush 104, 2) := by decide +kernel
theorem dX13_describePlan_66 : decode cX13_describePlan 66 = .ok (.iload_n 1, 1) := by decide +kernel
theorem dX13_describePlan_67 : decode cX13_describePlan 67 = .ok (.iadd, 1) := by decide +kernel
theorem dX13_describePlan_68 : decode cX13_describePlan 68 = .ok (.iaload, 1) := by decide +kernel
theorem dX13_describePlan_69 : decode cX13_describePlan 69 = .ok (.if_icmp .ge 26, 3) := by decide +kernel
theorem dX13_describePlan_72 : decode cX13_describePlan 72 = .ok (.aload_n 0, 1) := by decide +kernel
theorem dX13_describePlan_73 : decode cX13_describePlan 73 = .ok (.getfield 16, 3) := by decide +kernel
theorem dX13_describePlan_76 : decode cX13_describePlan 76 = .ok (.iload_n 1, 1) := by decide +kernel
theorem dX13_describePlan_77 : decode cX13_describePlan 77 = .ok (.iload_n 2, 1) := by decide +kernel
theorem dX13_describePlan_78 : decode cX13_describePlan 78 = .ok (.invokestatic 141, 3) := by decide +kernel
theorem dX13_describePlan_81 : decode cX13_describePlan 81 = .ok (.iaload, 1) := by decide +kernel
theorem dX13_describePlan_82 : decode cX13_describePlan 82 = .ok (.iload_n 3, 1) := by decide +kernel
theorem dX13_describePlan_83 : decode cX13_describePlan 83 = .ok (.if_icmp .ne 12, 3) := by decide +kernel
theorem dX13_describePlan_86 : decode cX13_describePlan 86 = .ok (.iinc 4 1, 3) := by decide +kernel
theorem dX13_describePlan_89 : decode cX13_describePlan 89 = .ok (.iinc 2 1, 3) := by decide +kernel
theorem dX13_describePlan_92 : decode cX13_describePlan 92 = .ok (.goto (-33), 3) := by decide +kernel
theorem dX13_describePlan_95 : decode cX13_describePlan 95 = .ok (.aload_n 0, 1) := by decide +kernel
theorem dX13_describePlan_96 : decode cX13_describePlan 96 = .ok (.iload_n 3, 1) := by decide +kernel
theorem dX13_describePlan_97 : decode cX13_describePlan 97 = .ok (.invokestatic 171, 3) := by decide +kernel
theorem dX13_describePlan_100 : decode cX13_describePlan 100 = .ok (.invokevirtual 293, 3) := by decide +kernel
theorem dX13_describePlan_103 : decode cX13_describePlan 103 = .ok (.iload 4, 2) := by decide +kernel
theorem dX13_describePlan_105 : decode cX13_describePlan 105 = .ok (.bipush 9, 2) := by decide +kernel
theorem dX13_describePlan_107 : decode cX13_describePlan 107 = .ok (.if_icmp .le 15, 3) := by decide +kernel
theorem dX13_describePlan_110 : decode cX13_describePlan 110 = .ok (.aload_n 0, 1) := by decide +kernel
theorem dX13_describePlan_111 : decode cX13_describePlan 111 = .ok (.bipush 48, 2) := by decide +kernel
theorem dX13_describePlan_113 : decode cX13_describePlan 113 = .ok (.iload 4, 2) := by decide +kernel
theorem dX13_describePlan_115 : decode cX13_describePlan 115 = .ok (.bipush 10, 2) := by decide +kernel
theorem dX13_describePlan_117 : decode cX13_describePlan 117 = .ok (.idiv, 1) := by decide +kernel
theorem dX13_describePlan_118 : decode cX13_describePlan 118 = .ok (.iadd, 1) := by decide +kernel
theorem dX13_describePlan_119 : decode cX13_describePlan 119 = .ok (.invokevirtual 293, 3) := by decide +kernel
theorem dX13_describePlan_122 : decode cX13_describePlan 122 = .ok (.iload 4, 2) := by decide +kernel
theorem dX13_describePlan_124 : decode cX13_describePlan 124 = .ok (.iconst 1, 1) := by decide +kernel
theorem dX13_describePlan_125 : decode cX13_describePlan 125 = .ok (.if_icmp .le 15, 3) := by decide +kernel
theorem dX13_describePlan_128 : decode cX13_describePlan 128 = .ok (.aload_n 0, 1) := by decide +kernel
theorem dX13_describePlan_129 : decode cX13_describePlan 129 = .ok (.bipush 48, 2) := by decide +kernel
theorem dX13_describePlan_131 : decode cX13_describePlan 131 = .ok (.iload 4, 2) := by decide +kernel
theorem dX13_describePlan_133 : decode cX13_describePlan 133 = .ok (.bipush 10, 2) := by decide +kernel
theorem dX13_describePlan_135 : decode cX13_describePlan 135 = .ok (.irem, 1) := by decide +kernel
theorem dX13_describePlan_136 : decode cX13_describePlan 136 = .ok (.iadd, 1) := by decide +kernel
theorem dX13_describePlan_137 : decode cX13_describePlan 137 = .ok (.invokevirtual 293, 3) := by decide +kernel
theorem dX13_describePlan_140 : decode cX13_describePlan 140 = .ok (.goto (-108), 3) := by decide +kernel
theorem dX13_describePlan_143 : decode cX13_describePlan 143 = .ok (.aload_n 0, 1) := by decide +kernel
theorem dX13_describePlan_144 : decode cX13_describePlan 144 = .ok (.getfield 287, 3) := by decide +kernel
theorem dX13_describePlan_147 : decode cX13_describePlan 147 = .ok (.ireturn, 1) := by decide +kernel
theorem dX13_lineAt_0 : decode cX13_lineAt 0 = .ok (.aload_n 0, 1) := by decide +kernel
theorem dX13_lineAt_1 : decode cX13_lineAt 1 = .ok (.iload_n 1, 1) := by decide +kernel
theorem dX13_lineAt_2 : decode cX13_lineAt 2 = .ok (.iconst 0, 1) := by decide +kernel
theorem dX13_lineAt_3 : decode cX13_lineAt 3 = .ok (.aload_n 0, 1) := by decide +kernel
theorem dX13_lineAt_4 : decode cX13_lineAt 4 = .ok (.getfield 287, 3) := by decide +kernel
theorem dX13_lineAt_7 : decode cX13_lineAt 7 = .ok (.iconst 1, 1) := by decide +kernel
theorem dX13_lineAt_8 : decode cX13_lineAt 8 = .ok (.isub, 1) := by decide +kernel
theorem dX13_lineAt_9 : decode cX13_lineAt 9 = .ok (.invokestatic 63, 3) := by decide +kernel
theorem dX13_lineAt_12 : decode cX13_lineAt 12 = .ok (.ifCond .eq 7, 3) := by decide +kernel
theorem dX13_lineAt_15 : decode cX13_lineAt 15 = .ok (.iconst 0, 1) := by decide +kernel
theorem dX13_lineAt_16 : decode cX13_lineAt 16 = .ok (.goto 4, 3) := by decide +kernel
theorem dX13_lineAt_19 : decode cX13_lineAt 19 = .ok (.iconst 1, 1) := by decide +kernel
theorem dX13_lineAt_20 : decode cX13_lineAt 20 = .ok (.putfield 53, 3) := by decide +kernel
theorem dX13_lineAt_23 : decode cX13_lineAt 23 = .ok (.aload_n 0, 1) := by decide +kernel
theorem dX13_lineAt_24 : decode cX13_lineAt 24 = .ok (.getfield 53, 3) := by decide +kernel
theorem dX13_lineAt_27 : decode cX13_lineAt 27 = .ok (.ifCond .ne 13, 3) := by decide +kernel
theorem dX13_lineAt_30 : decode cX13_lineAt 30 = .ok (.aload_n 0, 1) := by decide +kernel
theorem dX13_lineAt_31 : decode cX13_lineAt 31 = .ok (.getfield 41, 3) := by decide +kernel
theorem dX13_lineAt_34 : decode cX13_lineAt 34 = .ok (.iload_n 1, 1) := by decide +kernel
theorem dX13_lineAt_35 : decode cX13_lineAt 35 = .ok (.iaload, 1) := by decide +kernel
theorem dX13_lineAt_36 : decode cX13_lineAt 36 = .ok (.i2c, 1) := by decide +kernel
theorem dX13_lineAt_37 : decode cX13_lineAt 37 = .ok (.goto 5, 3) := by decide +kernel
theorem dX13_lineAt_40 : decode cX13_lineAt 40 = .ok (.bipush 97, 2) := by decide +kernel
theorem dX13_lineAt_42 : decode cX13_lineAt 42 = .ok (.ireturn, 1) := by decide +kernel
theorem dX13_meanFares_0 : decode cX13_meanFares 0 = .ok (.aload_n 0, 1) := by decide +kernel
theorem dX13_meanFares_1 : decode cX13_meanFares 1 = .ok (.aload_n 0, 1) := by decide +kernel
theorem dX13_meanFares_2 : decode cX13_meanFares 2 = .ok (.getfield 16, 3) := by decide +kernel
theorem dX13_meanFares_5 : decode cX13_meanFares 5 = .ok (.iconst 3, 1) := by decide +kernel
theorem dX13_meanFares_6 : decode cX13_meanFares 6 = .ok (.iaload, 1) := by decide +kernel
theorem dX13_meanFares_7 : decode cX13_meanFares 7 = .ok (.ifCond .ne 7, 3) := by decide +kernel
theorem dX13_meanFares_10 : decode cX13_meanFares 10 = .ok (.iconst 1, 1) := by decide +kernel
theorem dX13_meanFares_11 : decode cX13_meanFares 11 = .ok (.goto 4, 3) := by decide +kernel
theorem dX13_meanFares_14 : decode cX13_meanFares 14 = .ok (.iconst 0, 1) := by decide +kernel
theorem dX13_meanFares_15 : decode cX13_meanFares 15 = .ok (.putfield 53, 3) := by decide +kernel
theorem dX13_meanFares_18 : decode cX13_meanFares 18 = .ok (.aload_n 0, 1) := by decide +kernel
theorem dX13_meanFares_19 : decode cX13_meanFares 19 = .ok (.getfield 53, 3) := by decide +kernel
theorem dX13_meanFares_22 : decode cX13_meanFares 22 = .ok (.ifCond .ne 19, 3) := by decide +kernel
theorem dX13_meanFares_25 : decode cX13_meanFares 25 = .ok (.aload_n 0, 1) := by decide +kernel
theorem dX13_meanFares_26 : decode cX13_meanFares 26 = .ok (.invokevirtual 240, 3) := by decide +kernel
theorem dX13_meanFares_29 : decode cX13_meanFares 29 = .ok (.i2d, 1) := by decide +kernel
theorem dX13_meanFares_30 : decode cX13_meanFares 30 = .ok (.aload_n 0, 1) := by decide +kernel
theorem dX13_meanFares_31 : decode cX13_meanFares 31 = .ok (.getfield 16, 3) := by decide +kernel
theorem dX13_meanFares_34 : decode cX13_meanFares 34 = .ok (.iconst 3, 1) := by decide +kernel
theorem dX13_meanFares_35 : decode cX13_meanFares 35 = .ok (.iaload, 1) := by decide +kernel
theorem dX13_meanFares_36 : decode cX13_meanFares 36 = .ok (.i2d, 1) := by decide +kernel
theorem dX13_meanFares_37 : decode cX13_meanFares 37 = .ok (.ddiv, 1) := by decide +kernel
theorem dX13_meanFares_38 : decode cX13_meanFares 38 = .ok (.goto 4, 3) := by decide +kernel
theorem dX13_meanFares_41 : decode cX13_meanFares 41 = .ok (.dconst 0, 1) := by decide +kernel
theorem dX13_meanFares_42 : decode cX13_meanFares 42 = .ok (.dreturn, 1) := by decide +kernel
theorem dX13_passableShare_0 : decode cX13_passableShare 0 = .ok (.aload_n 0, 1) := by decide +kernel
theorem dX13_passableShare_1 : decode cX13_passableShare 1 = .ok (.iconst 0, 1) := by decide +kernel
theorem dX13_passableShare_2 : decode cX13_passableShare 2 = .ok (.putfield 53, 3) := by decide +kernel
theorem dX13_passableShare_5 : decode cX13_passableShare 5 = .ok (.iconst 0, 1) := by decide +kernel
theorem dX13_passableShare_6 : decode cX13_passableShare 6 = .ok (.istore_n 1, 1) := by decide +kernel
theorem dX13_passableShare_7 : decode cX13_passableShare 7 = .ok (.iconst 0, 1) := by decide +kernel
theorem dX13_passableShare_8 : decode cX13_passableShare 8 = .ok (.istore_n 2, 1) := by decide +kernel
theorem dX13_passableShare_9 : decode cX13_passableShare 9 = .ok (.iload_n 2, 1) := by decide +kernel
theorem dX13_passableShare_10 : decode cX13_passableShare 10 = .ok (.bipush 81, 2) := by decide +kernel
theorem dX13_passableShare_12 : decode cX13_passableShare 12 = .ok (.if_icmp .ge 25, 3) := by decide +kernel
theorem dX13_passableShare_15 : decode cX13_passableShare 15 = .ok (.iload_n 1, 1) := by decide +kernel
theorem dX13_passableShare_16 : decode cX13_passableShare 16 = .ok (.aload_n 0, 1) := by decide +kernel
theorem dX13_passableShare_17 : decode cX13_passableShare 17 = .ok (.iload_n 2, 1) := by decide +kernel
theorem dX13_passableShare_18 : decode cX13_passableShare 18 = .ok (.invokevirtual 113, 3) := by decide +kernel
theorem dX13_passableShare_21 : decode cX13_passableShare 21 = .ok (.ifCond .eq 7, 3) := by decide +kernel
theorem dX13_passableShare_24 : decode cX13_passableShare 24 = .ok (.iconst 1, 1) := by decide +kernel
theorem dX13_passableShare_25 : decode cX13_passableShare 25 = .ok (.goto 4, 3) := by decide +kernel
theorem dX13_passableShare_28 : decode cX13_passableShare 28 = .ok (.iconst 0, 1) := by decide +kernel
theorem dX13_passableShare_29 : decode cX13_passableShare 29 = .ok (.iadd, 1) := by decide +kernel
theorem dX13_passableShare_30 : decode cX13_passableShare 30 = .ok (.istore_n 1, 1) := by decide +kernel
theorem dX13_passableShare_31 : decode cX13_passableShare 31 = .ok (.iinc 2 1, 3) := by decide +kernel
theorem dX13_passableShare_34 : decode cX13_passableShare 34 = .ok (.goto (-25), 3) := by decide +kernel
theorem dX13_passableShare_37 : decode cX13_passableShare 37 = .ok (.iload_n 1, 1) := by decide +kernel
theorem dX13_passableShare_38 : decode cX13_passableShare 38 = .ok (.i2f, 1) := by decide +kernel
theorem dX13_passableShare_39 : decode cX13_passableShare 39 = .ok (.ldc_w 296, 3) := by decide +kernel
theorem dX13_passableShare_42 : decode cX13_passableShare 42 = .ok (.fdiv, 1) := by decide +kernel
theorem dX13_passableShare_43 : decode cX13_passableShare 43 = .ok (.freturn, 1) := by decide +kernel
theorem dX13_isConsistent_0 : decode cX13_isConsistent 0 = .ok (.aload_n 0, 1) := by decide +kernel
theorem dX13_isConsistent_1 : decode cX13_isConsistent 1 = .ok (.iconst 0, 1) := by decide +kernel
theorem dX13_isConsistent_2 : decode cX13_isConsistent 2 = .ok (.putfield 53, 3) := by decide +kernel
theorem dX13_isConsistent_5 : decode cX13_isConsistent 5 = .ok (.aload_n 0, 1) := by decide +kernel
theorem dX13_isConsistent_6 : decode cX13_isConsistent 6 = .ok (.getfield 16, 3) := by decide +kernel
theorem dX13_isConsistent_9 : decode cX13_isConsistent 9 = .ok (.iconst 0, 1) := by decide +kernel
theorem dX13_isConsistent_10 : decode cX13_isConsistent 10 = .ok (.iaload, 1) := by decide +kernel
theorem dX13_isConsistent_11 : decode cX13_isConsistent 11 = .ok (.bipush 30, 2) := by decide +kernel
theorem dX13_isConsistent_13 : decode cX13_isConsistent 13 = .ok (.if_icmp .gt 17, 3) := by decide +kernel
theorem dX13_isConsistent_16 : decode cX13_isConsistent 16 = .ok (.aload_n 0, 1) := by decide +kernel
theorem dX13_isConsistent_17 : decode cX13_isConsistent 17 = .ok (.getfield 16, 3) := by decide +kernel
theorem dX13_isConsistent_20 : decode cX13_isConsistent 20 = .ok (.iconst 3, 1) := by decide +kernel
theorem dX13_isConsistent_21 : decode cX13_isConsistent 21 = .ok (.iaload, 1) := by decide +kernel
theorem dX13_isConsistent_22 : decode cX13_isConsistent 22 = .ok (.iconst 4, 1) := by decide +kernel
theorem dX13_isConsistent_23 : decode cX13_isConsistent 23 = .ok (.if_icmp .gt 7, 3) := by decide +kernel
theorem dX13_isConsistent_26 : decode cX13_isConsistent 26 = .ok (.iconst 1, 1) := by decide +kernel
theorem dX13_isConsistent_27 : decode cX13_isConsistent 27 = .ok (.goto 4, 3) := by decide +kernel
theorem dX13_isConsistent_30 : decode cX13_isConsistent 30 = .ok (.iconst 0, 1) := by decide +kernel
theorem dX13_isConsistent_31 : decode cX13_isConsistent 31 = .ok (.ireturn, 1) := by decide +kernel
theorem dX13_undo_0 : decode cX13_undo 0 = .ok (.aload_n 0, 1) := by decide +kernel
theorem dX13_undo_1 : decode cX13_undo 1 = .ok (.aload_n 0, 1) := by decide +kernel
theorem dX13_undo_2 : decode cX13_undo 2 = .ok (.getfield 60, 3) := by decide +kernel
theorem dX13_undo_5 : decode cX13_undo 5 = .ok (.ifCond .ne 7, 3) := by decide +kernel
theorem dX13_undo_8 : decode cX13_undo 8 = .ok (.iconst 1, 1) := by decide +kernel
theorem dX13_undo_9 : decode cX13_undo 9 = .ok (.goto 4, 3) := by decide +kernel
theorem dX13_undo_12 : decode cX13_undo 12 = .ok (.iconst 0, 1) := by decide +kernel
theorem dX13_undo_13 : decode cX13_undo 13 = .ok (.putfield 53, 3) := by decide +kernel
theorem dX13_undo_16 : decode cX13_undo 16 = .ok (.aload_n 0, 1) := by decide +kernel
theorem dX13_undo_17 : decode cX13_undo 17 = .ok (.getfield 53, 3) := by decide +kernel
theorem dX13_undo_20 : decode cX13_undo 20 = .ok (.ifCond .eq 5, 3) := by decide +kernel
theorem dX13_undo_23 : decode cX13_undo 23 = .ok (.iconst 0, 1) := by decide +kernel
theorem dX13_undo_24 : decode cX13_undo 24 = .ok (.ireturn, 1) := by decide +kernel
theorem dX13_undo_25 : decode cX13_undo 25 = .ok (.aload_n 0, 1) := by decide +kernel
theorem dX13_undo_26 : decode cX13_undo 26 = .ok (.dup, 1) := by decide +kernel
theorem dX13_undo_27 : decode cX13_undo 27 = .ok (.getfield 60, 3) := by decide +kernel
theorem dX13_undo_30 : decode cX13_undo 30 = .ok (.iconst 1, 1) := by decide +kernel
theorem dX13_undo_31 : decode cX13_undo 31 = .ok (.isub, 1) := by decide +kernel
theorem dX13_undo_32 : decode cX13_undo 32 = .ok (.putfield 60, 3) := by decide +kernel
theorem dX13_undo_35 : decode cX13_undo 35 = .ok (.iconst 0, 1) := by decide +kernel
theorem dX13_undo_36 : decode cX13_undo 36 = .ok (.istore_n 1, 1) := by decide +kernel
theorem dX13_undo_37 : decode cX13_undo 37 = .ok (.iload_n 1, 1) := by decide +kernel
theorem dX13_undo_38 : decode cX13_undo 38 = .ok (.sipush 238, 3) := by decide +kernel
theorem dX13_undo_41 : decode cX13_undo 41 = .ok (.if_icmp .ge 30, 3) := by decide +kernel
theorem dX13_undo_44 : decode cX13_undo 44 = .ok (.aload_n 0, 1) := by decide +kernel
theorem dX13_undo_45 : decode cX13_undo 45 = .ok (.getfield 16, 3) := by decide +kernel
theorem dX13_undo_48 : decode cX13_undo 48 = .ok (.iload_n 1, 1) := by decide +kernel
theorem dX13_undo_49 : decode cX13_undo 49 = .ok (.aload_n 0, 1) := by decide +kernel
theorem dX13_undo_50 : decode cX13_undo 50 = .ok (.getfield 26, 3) := by decide +kernel
theorem dX13_undo_53 : decode cX13_undo 53 = .ok (.aload_n 0, 1) := by decide +kernel
theorem dX13_undo_54 : decode cX13_undo 54 = .ok (.getfield 60, 3) := by decide +kernel
theorem dX13_undo_57 : decode cX13_undo 57 = .ok (.sipush 238, 3) := by decide +kernel
theorem dX13_undo_60 : decode cX13_undo 60 = .ok (.imul, 1) := by decide +kernel
theorem dX13_undo_61 : decode cX13_undo 61 = .ok (.iload_n 1, 1) := by decide +kernel
theorem dX13_undo_62 : decode cX13_undo 62 = .ok (.iadd, 1) := by decide +kernel
theorem dX13_undo_63 : decode cX13_undo 63 = .ok (.iaload, 1) := by decide +kernel
theorem dX13_undo_64 : decode cX13_undo 64 = .ok (.iastore, 1) := by decide +kernel
theorem dX13_undo_65 : decode cX13_undo 65 = .ok (.iinc 1 1, 3) := by decide +kernel
theorem dX13_undo_68 : decode cX13_undo 68 = .ok (.goto (-31), 3) := by decide +kernel
theorem dX13_undo_71 : decode cX13_undo 71 = .ok (.aload_n 0, 1) := by decide +kernel
theorem dX13_undo_72 : decode cX13_undo 72 = .ok (.getfield 60, 3) := by decide +kernel
theorem dX13_undo_75 : decode cX13_undo 75 = .ok (.ireturn, 1) := by decide +kernel
theorem dX13_save_0 : decode cX13_save 0 = .ok (.aload_n 0, 1) := by decide +kernel
theorem dX13_save_1 : decode cX13_save 1 = .ok (.iconst 0, 1) := by decide +kernel
theorem dX13_save_2 : decode cX13_save 2 = .ok (.putfield 53, 3) := by decide +kernel
theorem dX13_save_5 : decode cX13_save 5 = .ok (.aload_n 0, 1) := by decide +kernel
theorem dX13_save_6 : decode cX13_save 6 = .ok (.getfield 23, 3) := by decide +kernel
theorem dX13_save_9 : decode cX13_save 9 = .ok (.aload_n 0, 1) := by decide +kernel
theorem dX13_save_10 : decode cX13_save 10 = .ok (.getfield 16, 3) := by decide +kernel
theorem dX13_save_13 : decode cX13_save 13 = .ok (.invokestatic 56, 3) := by decide +kernel
theorem dX13_save_16 : decode cX13_save 16 = .ok (.aload_n 0, 1) := by decide +kernel
theorem dX13_save_17 : decode cX13_save 17 = .ok (.iconst 1, 1) := by decide +kernel
theorem dX13_save_18 : decode cX13_save 18 = .ok (.putfield 297, 3) := by decide +kernel
theorem dX13_save_21 : decode cX13_save 21 = .ok (.aload_n 0, 1) := by decide +kernel
theorem dX13_save_22 : decode cX13_save 22 = .ok (.getfield 16, 3) := by decide +kernel
theorem dX13_save_25 : decode cX13_save 25 = .ok (.iconst 3, 1) := by decide +kernel
theorem dX13_save_26 : decode cX13_save 26 = .ok (.iaload, 1) := by decide +kernel
theorem dX13_save_27 : decode cX13_save 27 = .ok (.ireturn, 1) := by decide +kernel
theorem dX13_restore_0 : decode cX13_restore 0 = .ok (.aload_n 0, 1) := by decide +kernel
theorem dX13_restore_1 : decode cX13_restore 1 = .ok (.aload_n 0, 1) := by decide +kernel
theorem dX13_restore_2 : decode cX13_restore 2 = .ok (.getfield 297, 3) := by decide +kernel
theorem dX13_restore_5 : decode cX13_restore 5 = .ok (.ifCond .eq 7, 3) := by decide +kernel
theorem dX13_restore_8 : decode cX13_restore 8 = .ok (.iconst 0, 1) := by decide +kernel
theorem dX13_restore_9 : decode cX13_restore 9 = .ok (.goto 4, 3) := by decide +kernel
theorem dX13_restore_12 : decode cX13_restore 12 = .ok (.iconst 1, 1) := by decide +kernel
theorem dX13_restore_13 : decode cX13_restore 13 = .ok (.putfield 53, 3) := by decide +kernel
theorem dX13_restore_16 : decode cX13_restore 16 = .ok (.aload_n 0, 1) := by decide +kernel
theorem dX13_restore_17 : decode cX13_restore 17 = .ok (.getfield 53, 3) := by decide +kernel
theorem dX13_restore_20 : decode cX13_restore 20 = .ok (.ifCond .eq 5, 3) := by decide +kernel
theorem dX13_restore_23 : decode cX13_restore 23 = .ok (.iconst 0, 1) := by decide +kernel
theorem dX13_restore_24 : decode cX13_restore 24 = .ok (.ireturn, 1) := by decide +kernel
theorem dX13_restore_25 : decode cX13_restore 25 = .ok (.aload_n 0, 1) := by decide +kernel
theorem dX13_restore_26 : decode cX13_restore 26 = .ok (.getfield 16, 3) := by decide +kernel
theorem dX13_restore_29 : decode cX13_restore 29 = .ok (.aload_n 0, 1) := by decide +kernel
theorem dX13_restore_30 : decode cX13_restore 30 = .ok (.getfield 23, 3) := by decide +kernel
theorem dX13_restore_33 : decode cX13_restore 33 = .ok (.invokestatic 56, 3) := by decide +kernel
theorem dX13_restore_36 : decode cX13_restore 36 = .ok (.aload_n 0, 1) := by decide +kernel
theorem dX13_restore_37 : decode cX13_restore 37 = .ok (.iconst 0, 1) := by decide +kernel
theorem dX13_restore_38 : decode cX13_restore 38 = .ok (.putfield 60, 3) := by decide +kernel
theorem dX13_restore_41 : decode cX13_restore 41 = .ok (.aload_n 0, 1) := by decide +kernel
theorem dX13_restore_42 : decode cX13_restore 42 = .ok (.getfield 16, 3) := by decide +kernel
theorem dX13_restore_45 : decode cX13_restore 45 = .ok (.iconst 3, 1) := by decide +kernel
theorem dX13_restore_46 : decode cX13_restore 46 = .ok (.iaload, 1) := by decide +kernel
theorem dX13_restore_47 : decode cX13_restore 47 = .ok (.ireturn, 1) := by decide +kernel
theorem dJx00060_init_a7421_0 : decode cJx00060_init_a7421 0 = .ok (.aload_n 0, 1) := by decide +kernel
theorem dJx00060_init_a7421_1 : decode cJx00060_init_a7421 1 = .ok (.aload_n 1, 1) := by decide +kernel
theorem dJx00060_init_a7421_2 : decode cJx00060_init_a7421 2 = .ok (.invokespecial 7, 3) := by decide +kernel
theorem dJx00060_init_a7421_5 : decode cJx00060_init_a7421 5 = .ok (.return_, 1) := by decide +kernel
theorem dJx29ce0_ordinal_8abf5_0 : decode cJx29ce0_ordinal_8abf5 0 = .ok (.aload_n 0, 1) := by decide +kernel
theorem dJx29ce0_ordinal_8abf5_1 : decode cJx29ce0_ordinal_8abf5 1 = .ok (.getfield 7, 3) := by decide +kernel
theorem dJx29ce0_ordinal_8abf5_4 : decode cJx29ce0_ordinal_8abf5 4 = .ok (.ireturn, 1) := by decide +kernel
theorem dJ6_bitCount_0f7a4_0 : decode cJ6_bitCount_0f7a4 0 = .ok (.iload_n 0, 1) := by decide +kernel
theorem dJ6_bitCount_0f7a4_1 : decode cJ6_bitCount_0f7a4 1 = .ok (.iload_n 0, 1) := by decide +kernel
theorem dJ6_bitCount_0f7a4_2 : decode cJ6_bitCount_0f7a4 2 = .ok (.iconst 1, 1) := by decide +kernel
theorem dJ6_bitCount_0f7a4_3 : decode cJ6_bitCount_0f7a4 3 = .ok (.iushr, 1) := by decide +kernel
theorem dJ6_bitCount_0f7a4_4 : decode cJ6_bitCount_0f7a4 4 = .ok (.ldc_w 265, 3) := by decide +kernel
theorem dJ6_bitCount_0f7a4_7 : decode cJ6_bitCount_0f7a4 7 = .ok (.iand, 1) := by decide +kernel
theorem dJ6_bitCount_0f7a4_8 : decode cJ6_bitCount_0f7a4 8 = .ok (.isub, 1) := by decide +kernel
theorem dJ6_bitCount_0f7a4_9 : decode cJ6_bitCount_0f7a4 9 = .ok (.istore_n 0, 1) := by decide +kernel
theorem dJ6_bitCount_0f7a4_10 : decode cJ6_bitCount_0f7a4 10 = .ok (.iload_n 0, 1) := by decide +kernel
theorem dJ6_bitCount_0f7a4_11 : decode cJ6_bitCount_0f7a4 11 = .ok (.ldc_w 266, 3) := by decide +kernel
theorem dJ6_bitCount_0f7a4_14 : decode cJ6_bitCount_0f7a4 14 = .ok (.iand, 1) := by decide +kernel
theorem dJ6_bitCount_0f7a4_15 : decode cJ6_bitCount_0f7a4 15 = .ok (.iload_n 0, 1) := by decide +kernel
theorem dJ6_bitCount_0f7a4_16 : decode cJ6_bitCount_0f7a4 16 = .ok (.iconst 2, 1) := by decide +kernel
theorem dJ6_bitCount_0f7a4_17 : decode cJ6_bitCount_0f7a4 17 = .ok (.iushr, 1) := by decide +kernel
theorem dJ6_bitCount_0f7a4_18 : decode cJ6_bitCount_0f7a4 18 = .ok (.ldc_w 266, 3) := by decide +kernel
theorem dJ6_bitCount_0f7a4_21 : decode cJ6_bitCount_0f7a4 21 = .ok (.iand, 1) := by decide +kernel
theorem dJ6_bitCount_0f7a4_22 : decode cJ6_bitCount_0f7a4 22 = .ok (.iadd, 1) := by decide +kernel
theorem dJ6_bitCount_0f7a4_23 : decode cJ6_bitCount_0f7a4 23 = .ok (.istore_n 0, 1) := by decide +kernel
theorem dJ6_bitCount_0f7a4_24 : decode cJ6_bitCount_0f7a4 24 = .ok (.iload_n 0, 1) := by decide +kernel
theorem dJ6_bitCount_0f7a4_25 : decode cJ6_bitCount_0f7a4 25 = .ok (.iload_n 0, 1) := by decide +kernel
theorem dJ6_bitCount_0f7a4_26 : decode cJ6_bitCount_0f7a4 26 = .ok (.iconst 4, 1) := by decide +kernel
theorem dJ6_bitCount_0f7a4_27 : decode cJ6_bitCount_0f7a4 27 = .ok (.iushr, 1) := by decide +kernel
theorem dJ6_bitCount_0f7a4_28 : decode cJ6_bitCount_0f7a4 28 = .ok (.iadd, 1) := by decide +kernel
theorem dJ6_bitCount_0f7a4_29 : decode cJ6_bitCount_0f7a4 29 = .ok (.ldc_w 267, 3) := by decide +kernel
theorem dJ6_bitCount_0f7a4_32 : decode cJ6_bitCount_0f7a4 32 = .ok (.iand, 1) := by decide +kernel
theorem dJ6_bitCount_0f7a4_33 : decode cJ6_bitCount_0f7a4 33 = .ok (.istore_n 0, 1) := by decide +kernel
theorem dJ6_bitCount_0f7a4_34 : decode cJ6_bitCount_0f7a4 34 = .ok (.iload_n 0, 1) := by decide +kernel
theorem dJ6_bitCount_0f7a4_35 : decode cJ6_bitCount_0f7a4 35 = .ok (.iload_n 0, 1) := by decide +kernel
theorem dJ6_bitCount_0f7a4_36 : decode cJ6_bitCount_0f7a4 36 = .ok (.bipush 8, 2) := by decide +kernel
theorem dJ6_bitCount_0f7a4_38 : decode cJ6_bitCount_0f7a4 38 = .ok (.iushr, 1) := by decide +kernel
theorem dJ6_bitCount_0f7a4_39 : decode cJ6_bitCount_0f7a4 39 = .ok (.iadd, 1) := by decide +kernel
theorem dJ6_bitCount_0f7a4_40 : decode cJ6_bitCount_0f7a4 40 = .ok (.istore_n 0, 1) := by decide +kernel
theorem dJ6_bitCount_0f7a4_41 : decode cJ6_bitCount_0f7a4 41 = .ok (.iload_n 0, 1) := by decide +kernel
theorem dJ6_bitCount_0f7a4_42 : decode cJ6_bitCount_0f7a4 42 = .ok (.iload_n 0, 1) := by decide +kernel
theorem dJ6_bitCount_0f7a4_43 : decode cJ6_bitCount_0f7a4 43 = .ok (.bipush 16, 2) := by decide +kernel
theorem dJ6_bitCount_0f7a4_45 : decode cJ6_bitCount_0f7a4 45 = .ok (.iushr, 1) := by decide +kernel
theorem dJ6_bitCount_0f7a4_46 : decode cJ6_bitCount_0f7a4 46 = .ok (.iadd, 1) := by decide +kernel
theorem dJ6_bitCount_0f7a4_47 : decode cJ6_bitCount_0f7a4 47 = .ok (.istore_n 0, 1) := by decide +kernel
theorem dJ6_bitCount_0f7a4_48 : decode cJ6_bitCount_0f7a4 48 = .ok (.iload_n 0, 1) := by decide +kernel
theorem dJ6_bitCount_0f7a4_49 : decode cJ6_bitCount_0f7a4 49 = .ok (.bipush 63, 2) := by decide +kernel
theorem dJ6_bitCount_0f7a4_51 : decode cJ6_bitCount_0f7a4 51 = .ok (.iand, 1) := by decide +kernel
theorem dJ6_bitCount_0f7a4_52 : decode cJ6_bitCount_0f7a4 52 = .ok (.ireturn, 1) := by decide +kernel
theorem dJ9_abs_0f7a4_0 : decode cJ9_abs_0f7a4 0 = .ok (.iload_n 0, 1) := by decide +kernel
theorem dJ9_abs_0f7a4_1 : decode cJ9_abs_0f7a4 1 = .ok (.ifCond .ge 8, 3) := by decide +kernel
theorem dJ9_abs_0f7a4_4 : decode cJ9_abs_0f7a4 4 = .ok (.iload_n 0, 1) := by decide +kernel
theorem dJ9_abs_0f7a4_5 : decode cJ9_abs_0f7a4 5 = .ok (.ineg, 1) := by decide +kernel
theorem dJ9_abs_0f7a4_6 : decode cJ9_abs_0f7a4 6 = .ok (.goto 4, 3) := by decide +kernel
theorem dJ9_abs_0f7a4_9 : decode cJ9_abs_0f7a4 9 = .ok (.iload_n 0, 1) := by decide +kernel
theorem dJ9_abs_0f7a4_10 : decode cJ9_abs_0f7a4 10 = .ok (.ireturn, 1) := by decide +kernel
theorem dJ9_max_7cf53_0 : decode cJ9_max_7cf53 0 = .ok (.iload_n 0, 1) := by decide +kernel
theorem dJ9_max_7cf53_1 : decode cJ9_max_7cf53 1 = .ok (.iload_n 1, 1) := by decide +kernel
theorem dJ9_max_7cf53_2 : decode cJ9_max_7cf53 2 = .ok (.if_icmp .lt 7, 3) := by decide +kernel
theorem dJ9_max_7cf53_5 : decode cJ9_max_7cf53 5 = .ok (.iload_n 0, 1) := by decide +kernel
theorem dJ9_max_7cf53_6 : decode cJ9_max_7cf53 6 = .ok (.goto 4, 3) := by decide +kernel
theorem dJ9_max_7cf53_9 : decode cJ9_max_7cf53 9 = .ok (.iload_n 1, 1) := by decide +kernel
theorem dJ9_max_7cf53_10 : decode cJ9_max_7cf53 10 = .ok (.ireturn, 1) := by decide +kernel
theorem dJ9_min_7cf53_0 : decode cJ9_min_7cf53 0 = .ok (.iload_n 0, 1) := by decide +kernel
theorem dJ9_min_7cf53_1 : decode cJ9_min_7cf53 1 = .ok (.iload_n 1, 1) := by decide +kernel
theorem dJ9_min_7cf53_2 : decode cJ9_min_7cf53 2 = .ok (.if_icmp .gt 7, 3) := by decide +kernel
theorem dJ9_min_7cf53_5 : decode cJ9_min_7cf53 5 = .ok (.iload_n 0, 1) := by decide +kernel
theorem dJ9_min_7cf53_6 : decode cJ9_min_7cf53 6 = .ok (.goto 4, 3) := by decide +kernel
theorem dJ9_min_7cf53_9 : decode cJ9_min_7cf53 9 = .ok (.iload_n 1, 1) := by decide +kernel
theorem dJ9_min_7cf53_10 : decode cJ9_min_7cf53 10 = .ok (.ireturn, 1) := by decide +kernel
theorem dJ0_length_8abf5_0 : decode cJ0_length_8abf5 0 = .ok (.aload_n 0, 1) := by decide +kernel
theorem dJ0_length_8abf5_1 : decode cJ0_length_8abf5 1 = .ok (.getfield 9, 3) := by decide +kernel
theorem dJ0_length_8abf5_4 : decode cJ0_length_8abf5 4 = .ok (.arraylength, 1) := by decide +kernel
theorem dJ0_length_8abf5_5 : decode cJ0_length_8abf5 5 = .ok (.aload_n 0, 1) := by decide +kernel
theorem dJ0_length_8abf5_6 : decode cJ0_length_8abf5 6 = .ok (.invokevirtual 335, 3) := by decide +kernel
theorem dJ0_length_8abf5_9 : decode cJ0_length_8abf5 9 = .ok (.ishr, 1) := by decide +kernel
theorem dJ0_length_8abf5_10 : decode cJ0_length_8abf5 10 = .ok (.ireturn, 1) := by decide +kernel
theorem dJ0_charAt_5068e_0 : decode cJ0_charAt_5068e 0 = .ok (.aload_n 0, 1) := by decide +kernel
theorem dJ0_charAt_5068e_1 : decode cJ0_charAt_5068e 1 = .ok (.invokevirtual 492, 3) := by decide +kernel
theorem dJ0_charAt_5068e_4 : decode cJ0_charAt_5068e 4 = .ok (.ifCond .eq 12, 3) := by decide +kernel
theorem dJ0_charAt_5068e_7 : decode cJ0_charAt_5068e 7 = .ok (.aload_n 0, 1) := by decide +kernel
theorem dJ0_charAt_5068e_8 : decode cJ0_charAt_5068e 8 = .ok (.getfield 9, 3) := by decide +kernel
theorem dJ0_charAt_5068e_11 : decode cJ0_charAt_5068e 11 = .ok (.iload_n 1, 1) := by decide +kernel
theorem dJ0_charAt_5068e_12 : decode cJ0_charAt_5068e 12 = .ok (.invokestatic 495, 3) := by decide +kernel
theorem dJ0_charAt_5068e_15 : decode cJ0_charAt_5068e 15 = .ok (.ireturn, 1) := by decide +kernel
theorem dJ0_charAt_5068e_16 : decode cJ0_charAt_5068e 16 = .ok (.aload_n 0, 1) := by decide +kernel
theorem dJ0_charAt_5068e_17 : decode cJ0_charAt_5068e 17 = .ok (.getfield 9, 3) := by decide +kernel
theorem dJ0_charAt_5068e_20 : decode cJ0_charAt_5068e 20 = .ok (.iload_n 1, 1) := by decide +kernel
theorem dJ0_charAt_5068e_21 : decode cJ0_charAt_5068e 21 = .ok (.invokestatic 498, 3) := by decide +kernel
theorem dJ0_charAt_5068e_24 : decode cJ0_charAt_5068e 24 = .ok (.ireturn, 1) := by decide +kernel
theorem dJ0_coder_7d493_0 : decode cJ0_coder_7d493 0 = .ok (.getstatic 38, 3) := by decide +kernel
theorem dJ0_coder_7d493_3 : decode cJ0_coder_7d493 3 = .ok (.ifCond .eq 10, 3) := by decide +kernel
theorem dJ0_coder_7d493_6 : decode cJ0_coder_7d493 6 = .ok (.aload_n 0, 1) := by decide +kernel
theorem dJ0_coder_7d493_7 : decode cJ0_coder_7d493 7 = .ok (.getfield 15, 3) := by decide +kernel
theorem dJ0_coder_7d493_10 : decode cJ0_coder_7d493 10 = .ok (.goto 4, 3) := by decide +kernel
theorem dJ0_coder_7d493_13 : decode cJ0_coder_7d493 13 = .ok (.iconst 1, 1) := by decide +kernel
theorem dJ0_coder_7d493_14 : decode cJ0_coder_7d493 14 = .ok (.ireturn, 1) := by decide +kernel
theorem dJ0_isLatin1_aae02_0 : decode cJ0_isLatin1_aae02 0 = .ok (.getstatic 38, 3) := by decide +kernel
theorem dJ0_isLatin1_aae02_3 : decode cJ0_isLatin1_aae02 3 = .ok (.ifCond .eq 14, 3) := by decide +kernel
theorem dJ0_isLatin1_aae02_6 : decode cJ0_isLatin1_aae02 6 = .ok (.aload_n 0, 1) := by decide +kernel
theorem dJ0_isLatin1_aae02_7 : decode cJ0_isLatin1_aae02 7 = .ok (.getfield 15, 3) := by decide +kernel
theorem dJ0_isLatin1_aae02_10 : decode cJ0_isLatin1_aae02 10 = .ok (.ifCond .ne 7, 3) := by decide +kernel
theorem dJ0_isLatin1_aae02_13 : decode cJ0_isLatin1_aae02 13 = .ok (.iconst 1, 1) := by decide +kernel
theorem dJ0_isLatin1_aae02_14 : decode cJ0_isLatin1_aae02 14 = .ok (.goto 4, 3) := by decide +kernel
theorem dJ0_isLatin1_aae02_17 : decode cJ0_isLatin1_aae02 17 = .ok (.iconst 0, 1) := by decide +kernel
theorem dJ0_isLatin1_aae02_18 : decode cJ0_isLatin1_aae02 18 = .ok (.ireturn, 1) := by decide +kernel
theorem dJ0_checkIndex_df160_0 : decode cJ0_checkIndex_df160 0 = .ok (.iload_n 0, 1) := by decide +kernel
theorem dJ0_checkIndex_df160_1 : decode cJ0_checkIndex_df160 1 = .ok (.iload_n 1, 1) := by decide +kernel
theorem dJ0_checkIndex_df160_2 : decode cJ0_checkIndex_df160 2 = .ok (.getstatic 1053, 3) := by decide +kernel
theorem dJ0_checkIndex_df160_5 : decode cJ0_checkIndex_df160 5 = .ok (.invokestatic 1059, 3) := by decide +kernel
theorem dJ0_checkIndex_df160_8 : decode cJ0_checkIndex_df160 8 = .ok (.pop, 1) := by decide +kernel
theorem dJ0_checkIndex_df160_9 : decode cJ0_checkIndex_df160 9 = .ok (.return_, 1) := by decide +kernel
theorem dJ1_charAt_3b067_0 : decode cJ1_charAt_3b067 0 = .ok (.iload_n 1, 1) := by decide +kernel
theorem dJ1_charAt_3b067_1 : decode cJ1_charAt_3b067 1 = .ok (.aload_n 0, 1) := by decide +kernel
theorem dJ1_charAt_3b067_2 : decode cJ1_charAt_3b067 2 = .ok (.arraylength, 1) := by decide +kernel
theorem dJ1_charAt_3b067_3 : decode cJ1_charAt_3b067 3 = .ok (.invokestatic 9, 3) := by decide +kernel
theorem dJ1_charAt_3b067_6 : decode cJ1_charAt_3b067 6 = .ok (.aload_n 0, 1) := by decide +kernel
theorem dJ1_charAt_3b067_7 : decode cJ1_charAt_3b067 7 = .ok (.iload_n 1, 1) := by decide +kernel
theorem dJ1_charAt_3b067_8 : decode cJ1_charAt_3b067 8 = .ok (.baload, 1) := by decide +kernel
theorem dJ1_charAt_3b067_9 : decode cJ1_charAt_3b067 9 = .ok (.sipush 255, 3) := by decide +kernel
theorem dJ1_charAt_3b067_12 : decode cJ1_charAt_3b067 12 = .ok (.iand, 1) := by decide +kernel
theorem dJ1_charAt_3b067_13 : decode cJ1_charAt_3b067 13 = .ok (.i2c, 1) := by decide +kernel
theorem dJ1_charAt_3b067_14 : decode cJ1_charAt_3b067 14 = .ok (.ireturn, 1) := by decide +kernel
theorem dJ2_getChar_3b067_0 : decode cJ2_getChar_3b067 0 = .ok (.getstatic 44, 3) := by decide +kernel
theorem dJ2_getChar_3b067_3 : decode cJ2_getChar_3b067 3 = .ok (.ifCond .ne 25, 3) := by decide +kernel
theorem dJ2_getChar_3b067_6 : decode cJ2_getChar_3b067 6 = .ok (.iload_n 1, 1) := by decide +kernel
theorem dJ2_getChar_3b067_7 : decode cJ2_getChar_3b067 7 = .ok (.ifCond .lt 11, 3) := by decide +kernel
theorem dJ2_getChar_3b067_10 : decode cJ2_getChar_3b067 10 = .ok (.iload_n 1, 1) := by decide +kernel
theorem dJ2_getChar_3b067_11 : decode cJ2_getChar_3b067 11 = .ok (.aload_n 0, 1) := by decide +kernel
