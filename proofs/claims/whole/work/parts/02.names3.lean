theorem dX11_searchByRounds_16 : decode cX11_searchByRounds 16 = .ok (.if_icmp .ge 50, 3) := by decide +kernel
theorem dX11_searchByRounds_19 : decode cX11_searchByRounds 19 = .ok (.iload_n 2, 1) := by decide +kernel
theorem dX11_searchByRounds_20 : decode cX11_searchByRounds 20 = .ok (.ifCond .eq 46, 3) := by decide +kernel
theorem dX11_searchByRounds_23 : decode cX11_searchByRounds 23 = .ok (.iconst 0, 1) := by decide +kernel
theorem dX11_searchByRounds_24 : decode cX11_searchByRounds 24 = .ok (.istore_n 2, 1) := by decide +kernel
theorem dX11_searchByRounds_25 : decode cX11_searchByRounds 25 = .ok (.iconst 0, 1) := by decide +kernel
theorem dX11_searchByRounds_26 : decode cX11_searchByRounds 26 = .ok (.istore 4, 2) := by decide +kernel
theorem dX11_searchByRounds_28 : decode cX11_searchByRounds 28 = .ok (.iload 4, 2) := by decide +kernel
theorem dX11_searchByRounds_30 : decode cX11_searchByRounds 30 = .ok (.bipush 81, 2) := by decide +kernel
theorem dX11_searchByRounds_32 : decode cX11_searchByRounds 32 = .ok (.if_icmp .ge 28, 3) := by decide +kernel
theorem dX11_searchByRounds_35 : decode cX11_searchByRounds 35 = .ok (.aload_n 0, 1) := by decide +kernel
theorem dX11_searchByRounds_36 : decode cX11_searchByRounds 36 = .ok (.iload 4, 2) := by decide +kernel
theorem dX11_searchByRounds_38 : decode cX11_searchByRounds 38 = .ok (.invokevirtual 76, 3) := by decide +kernel
theorem dX11_searchByRounds_41 : decode cX11_searchByRounds 41 = .ok (.ifCond .ne 7, 3) := by decide +kernel
theorem dX11_searchByRounds_44 : decode cX11_searchByRounds 44 = .ok (.iload_n 2, 1) := by decide +kernel
theorem dX11_searchByRounds_45 : decode cX11_searchByRounds 45 = .ok (.ifCond .eq 7, 3) := by decide +kernel
theorem dX11_searchByRounds_48 : decode cX11_searchByRounds 48 = .ok (.iconst 1, 1) := by decide +kernel
theorem dX11_searchByRounds_49 : decode cX11_searchByRounds 49 = .ok (.goto 4, 3) := by decide +kernel
theorem dX11_searchByRounds_52 : decode cX11_searchByRounds 52 = .ok (.iconst 0, 1) := by decide +kernel
theorem dX11_searchByRounds_53 : decode cX11_searchByRounds 53 = .ok (.istore_n 2, 1) := by decide +kernel
theorem dX11_searchByRounds_54 : decode cX11_searchByRounds 54 = .ok (.iinc 4 1, 3) := by decide +kernel
theorem dX11_searchByRounds_57 : decode cX11_searchByRounds 57 = .ok (.goto (-29), 3) := by decide +kernel
theorem dX11_searchByRounds_60 : decode cX11_searchByRounds 60 = .ok (.iinc 3 1, 3) := by decide +kernel
theorem dX11_searchByRounds_63 : decode cX11_searchByRounds 63 = .ok (.goto (-50), 3) := by decide +kernel
theorem dX11_searchByRounds_66 : decode cX11_searchByRounds 66 = .ok (.return_, 1) := by decide +kernel
theorem dX11_improveFromNeighbours_0 : decode cX11_improveFromNeighbours 0 = .ok (.aload_n 0, 1) := by decide +kernel
theorem dX11_improveFromNeighbours_1 : decode cX11_improveFromNeighbours 1 = .ok (.getfield 9, 3) := by decide +kernel
theorem dX11_improveFromNeighbours_4 : decode cX11_improveFromNeighbours 4 = .ok (.iload_n 1, 1) := by decide +kernel
theorem dX11_improveFromNeighbours_5 : decode cX11_improveFromNeighbours 5 = .ok (.iaload, 1) := by decide +kernel
theorem dX11_improveFromNeighbours_6 : decode cX11_improveFromNeighbours 6 = .ok (.iconst (-1), 1) := by decide +kernel
theorem dX11_improveFromNeighbours_7 : decode cX11_improveFromNeighbours 7 = .ok (.if_icmp .ne 5, 3) := by decide +kernel
theorem dX11_improveFromNeighbours_10 : decode cX11_improveFromNeighbours 10 = .ok (.iconst 0, 1) := by decide +kernel
theorem dX11_improveFromNeighbours_11 : decode cX11_improveFromNeighbours 11 = .ok (.ireturn, 1) := by decide +kernel
theorem dX11_improveFromNeighbours_12 : decode cX11_improveFromNeighbours 12 = .ok (.iconst 0, 1) := by decide +kernel
theorem dX11_improveFromNeighbours_13 : decode cX11_improveFromNeighbours 13 = .ok (.istore_n 2, 1) := by decide +kernel
theorem dX11_improveFromNeighbours_14 : decode cX11_improveFromNeighbours 14 = .ok (.iconst 0, 1) := by decide +kernel
theorem dX11_improveFromNeighbours_15 : decode cX11_improveFromNeighbours 15 = .ok (.istore_n 3, 1) := by decide +kernel
theorem dX11_improveFromNeighbours_16 : decode cX11_improveFromNeighbours 16 = .ok (.iload_n 3, 1) := by decide +kernel
theorem dX11_improveFromNeighbours_17 : decode cX11_improveFromNeighbours 17 = .ok (.iconst 4, 1) := by decide +kernel
theorem dX11_improveFromNeighbours_18 : decode cX11_improveFromNeighbours 18 = .ok (.if_icmp .ge 67, 3) := by decide +kernel
theorem dX11_improveFromNeighbours_21 : decode cX11_improveFromNeighbours 21 = .ok (.iload_n 1, 1) := by decide +kernel
theorem dX11_improveFromNeighbours_22 : decode cX11_improveFromNeighbours 22 = .ok (.iload_n 3, 1) := by decide +kernel
theorem dX11_improveFromNeighbours_23 : decode cX11_improveFromNeighbours 23 = .ok (.invokestatic 55, 3) := by decide +kernel
theorem dX11_improveFromNeighbours_26 : decode cX11_improveFromNeighbours 26 = .ok (.istore 4, 2) := by decide +kernel
theorem dX11_improveFromNeighbours_28 : decode cX11_improveFromNeighbours 28 = .ok (.iload 4, 2) := by decide +kernel
theorem dX11_improveFromNeighbours_30 : decode cX11_improveFromNeighbours 30 = .ok (.iconst (-1), 1) := by decide +kernel
theorem dX11_improveFromNeighbours_31 : decode cX11_improveFromNeighbours 31 = .ok (.if_icmp .eq 48, 3) := by decide +kernel
theorem dX11_improveFromNeighbours_34 : decode cX11_improveFromNeighbours 34 = .ok (.aload_n 0, 1) := by decide +kernel
theorem dX11_improveFromNeighbours_35 : decode cX11_improveFromNeighbours 35 = .ok (.getfield 24, 3) := by decide +kernel
theorem dX11_improveFromNeighbours_38 : decode cX11_improveFromNeighbours 38 = .ok (.iload 4, 2) := by decide +kernel
theorem dX11_improveFromNeighbours_40 : decode cX11_improveFromNeighbours 40 = .ok (.iaload, 1) := by decide +kernel
theorem dX11_improveFromNeighbours_41 : decode cX11_improveFromNeighbours 41 = .ok (.aload_n 0, 1) := by decide +kernel
theorem dX11_improveFromNeighbours_42 : decode cX11_improveFromNeighbours 42 = .ok (.getfield 9, 3) := by decide +kernel
theorem dX11_improveFromNeighbours_45 : decode cX11_improveFromNeighbours 45 = .ok (.iload_n 1, 1) := by decide +kernel
theorem dX11_improveFromNeighbours_46 : decode cX11_improveFromNeighbours 46 = .ok (.iaload, 1) := by decide +kernel
theorem dX11_improveFromNeighbours_47 : decode cX11_improveFromNeighbours 47 = .ok (.iadd, 1) := by decide +kernel
theorem dX11_improveFromNeighbours_48 : decode cX11_improveFromNeighbours 48 = .ok (.aload_n 0, 1) := by decide +kernel
theorem dX11_improveFromNeighbours_49 : decode cX11_improveFromNeighbours 49 = .ok (.getfield 24, 3) := by decide +kernel
theorem dX11_improveFromNeighbours_52 : decode cX11_improveFromNeighbours 52 = .ok (.iload_n 1, 1) := by decide +kernel
theorem dX11_improveFromNeighbours_53 : decode cX11_improveFromNeighbours 53 = .ok (.iaload, 1) := by decide +kernel
theorem dX11_improveFromNeighbours_54 : decode cX11_improveFromNeighbours 54 = .ok (.if_icmp .ge 25, 3) := by decide +kernel
theorem dX11_improveFromNeighbours_57 : decode cX11_improveFromNeighbours 57 = .ok (.aload_n 0, 1) := by decide +kernel
theorem dX11_improveFromNeighbours_58 : decode cX11_improveFromNeighbours 58 = .ok (.getfield 24, 3) := by decide +kernel
theorem dX11_improveFromNeighbours_61 : decode cX11_improveFromNeighbours 61 = .ok (.iload_n 1, 1) := by decide +kernel
theorem dX11_improveFromNeighbours_62 : decode cX11_improveFromNeighbours 62 = .ok (.aload_n 0, 1) := by decide +kernel
theorem dX11_improveFromNeighbours_63 : decode cX11_improveFromNeighbours 63 = .ok (.getfield 24, 3) := by decide +kernel
theorem dX11_improveFromNeighbours_66 : decode cX11_improveFromNeighbours 66 = .ok (.iload 4, 2) := by decide +kernel
theorem dX11_improveFromNeighbours_68 : decode cX11_improveFromNeighbours 68 = .ok (.iaload, 1) := by decide +kernel
theorem dX11_improveFromNeighbours_69 : decode cX11_improveFromNeighbours 69 = .ok (.aload_n 0, 1) := by decide +kernel
theorem dX11_improveFromNeighbours_70 : decode cX11_improveFromNeighbours 70 = .ok (.getfield 9, 3) := by decide +kernel
theorem dX11_improveFromNeighbours_73 : decode cX11_improveFromNeighbours 73 = .ok (.iload_n 1, 1) := by decide +kernel
theorem dX11_improveFromNeighbours_74 : decode cX11_improveFromNeighbours 74 = .ok (.iaload, 1) := by decide +kernel
theorem dX11_improveFromNeighbours_75 : decode cX11_improveFromNeighbours 75 = .ok (.iadd, 1) := by decide +kernel
theorem dX11_improveFromNeighbours_76 : decode cX11_improveFromNeighbours 76 = .ok (.iastore, 1) := by decide +kernel
theorem dX11_improveFromNeighbours_77 : decode cX11_improveFromNeighbours 77 = .ok (.iconst 1, 1) := by decide +kernel
theorem dX11_improveFromNeighbours_78 : decode cX11_improveFromNeighbours 78 = .ok (.istore_n 2, 1) := by decide +kernel
theorem dX11_improveFromNeighbours_79 : decode cX11_improveFromNeighbours 79 = .ok (.iinc 3 1, 3) := by decide +kernel
theorem dX11_improveFromNeighbours_82 : decode cX11_improveFromNeighbours 82 = .ok (.goto (-66), 3) := by decide +kernel
theorem dX11_improveFromNeighbours_85 : decode cX11_improveFromNeighbours 85 = .ok (.iload_n 2, 1) := by decide +kernel
theorem dX11_improveFromNeighbours_86 : decode cX11_improveFromNeighbours 86 = .ok (.ireturn, 1) := by decide +kernel
theorem dX11_resultsAgree_0 : decode cX11_resultsAgree 0 = .ok (.iconst 0, 1) := by decide +kernel
theorem dX11_resultsAgree_1 : decode cX11_resultsAgree 1 = .ok (.istore_n 1, 1) := by decide +kernel
theorem dX11_resultsAgree_2 : decode cX11_resultsAgree 2 = .ok (.iload_n 1, 1) := by decide +kernel
theorem dX11_resultsAgree_3 : decode cX11_resultsAgree 3 = .ok (.bipush 81, 2) := by decide +kernel
theorem dX11_resultsAgree_5 : decode cX11_resultsAgree 5 = .ok (.if_icmp .ge 26, 3) := by decide +kernel
theorem dX11_resultsAgree_8 : decode cX11_resultsAgree 8 = .ok (.aload_n 0, 1) := by decide +kernel
theorem dX11_resultsAgree_9 : decode cX11_resultsAgree 9 = .ok (.getfield 21, 3) := by decide +kernel
theorem dX11_resultsAgree_12 : decode cX11_resultsAgree 12 = .ok (.iload_n 1, 1) := by decide +kernel
theorem dX11_resultsAgree_13 : decode cX11_resultsAgree 13 = .ok (.iaload, 1) := by decide +kernel
theorem dX11_resultsAgree_14 : decode cX11_resultsAgree 14 = .ok (.aload_n 0, 1) := by decide +kernel
theorem dX11_resultsAgree_15 : decode cX11_resultsAgree 15 = .ok (.getfield 24, 3) := by decide +kernel
theorem dX11_resultsAgree_18 : decode cX11_resultsAgree 18 = .ok (.iload_n 1, 1) := by decide +kernel
theorem dX11_resultsAgree_19 : decode cX11_resultsAgree 19 = .ok (.iaload, 1) := by decide +kernel
theorem dX11_resultsAgree_20 : decode cX11_resultsAgree 20 = .ok (.if_icmp .eq 5, 3) := by decide +kernel
theorem dX11_resultsAgree_23 : decode cX11_resultsAgree 23 = .ok (.iconst 0, 1) := by decide +kernel
theorem dX11_resultsAgree_24 : decode cX11_resultsAgree 24 = .ok (.ireturn, 1) := by decide +kernel
theorem dX11_resultsAgree_25 : decode cX11_resultsAgree 25 = .ok (.iinc 1 1, 3) := by decide +kernel
theorem dX11_resultsAgree_28 : decode cX11_resultsAgree 28 = .ok (.goto (-26), 3) := by decide +kernel
theorem dX11_resultsAgree_31 : decode cX11_resultsAgree 31 = .ok (.iconst 1, 1) := by decide +kernel
theorem dX11_resultsAgree_32 : decode cX11_resultsAgree 32 = .ok (.ireturn, 1) := by decide +kernel
theorem dX11_firstMoveTo_0 : decode cX11_firstMoveTo 0 = .ok (.iconst 0, 1) := by decide +kernel
theorem dX11_firstMoveTo_1 : decode cX11_firstMoveTo 1 = .ok (.istore_n 3, 1) := by decide +kernel
theorem dX11_firstMoveTo_2 : decode cX11_firstMoveTo 2 = .ok (.iload_n 3, 1) := by decide +kernel
theorem dX11_firstMoveTo_3 : decode cX11_firstMoveTo 3 = .ok (.iconst 4, 1) := by decide +kernel
theorem dX11_firstMoveTo_4 : decode cX11_firstMoveTo 4 = .ok (.if_icmp .ge 35, 3) := by decide +kernel
theorem dX11_firstMoveTo_7 : decode cX11_firstMoveTo 7 = .ok (.iload_n 1, 1) := by decide +kernel
theorem dX11_firstMoveTo_8 : decode cX11_firstMoveTo 8 = .ok (.iload_n 3, 1) := by decide +kernel
theorem dX11_firstMoveTo_9 : decode cX11_firstMoveTo 9 = .ok (.invokestatic 55, 3) := by decide +kernel
theorem dX11_firstMoveTo_12 : decode cX11_firstMoveTo 12 = .ok (.istore 4, 2) := by decide +kernel
theorem dX11_firstMoveTo_14 : decode cX11_firstMoveTo 14 = .ok (.iload 4, 2) := by decide +kernel
theorem dX11_firstMoveTo_16 : decode cX11_firstMoveTo 16 = .ok (.iconst (-1), 1) := by decide +kernel
theorem dX11_firstMoveTo_17 : decode cX11_firstMoveTo 17 = .ok (.if_icmp .eq 16, 3) := by decide +kernel
theorem dX11_firstMoveTo_20 : decode cX11_firstMoveTo 20 = .ok (.aload_n 0, 1) := by decide +kernel
theorem dX11_firstMoveTo_21 : decode cX11_firstMoveTo 21 = .ok (.getfield 21, 3) := by decide +kernel
theorem dX11_firstMoveTo_24 : decode cX11_firstMoveTo 24 = .ok (.iload 4, 2) := by decide +kernel
theorem dX11_firstMoveTo_26 : decode cX11_firstMoveTo 26 = .ok (.iaload, 1) := by decide +kernel
theorem dX11_firstMoveTo_27 : decode cX11_firstMoveTo 27 = .ok (.iload_n 2, 1) := by decide +kernel
theorem dX11_firstMoveTo_28 : decode cX11_firstMoveTo 28 = .ok (.if_icmp .ne 5, 3) := by decide +kernel
theorem dX11_firstMoveTo_31 : decode cX11_firstMoveTo 31 = .ok (.iload_n 3, 1) := by decide +kernel
theorem dX11_firstMoveTo_32 : decode cX11_firstMoveTo 32 = .ok (.ireturn, 1) := by decide +kernel
theorem dX11_firstMoveTo_33 : decode cX11_firstMoveTo 33 = .ok (.iinc 3 1, 3) := by decide +kernel
theorem dX11_firstMoveTo_36 : decode cX11_firstMoveTo 36 = .ok (.goto (-34), 3) := by decide +kernel
theorem dX11_firstMoveTo_39 : decode cX11_firstMoveTo 39 = .ok (.iconst 0, 1) := by decide +kernel
theorem dX11_firstMoveTo_40 : decode cX11_firstMoveTo 40 = .ok (.ireturn, 1) := by decide +kernel
theorem dX12_init_0 : decode cX12_init 0 = .ok (.aload_n 0, 1) := by decide +kernel
theorem dX12_init_1 : decode cX12_init 1 = .ok (.invokespecial 3, 3) := by decide +kernel
theorem dX12_init_4 : decode cX12_init 4 = .ok (.aload_n 0, 1) := by decide +kernel
theorem dX12_init_5 : decode cX12_init 5 = .ok (.new 9, 3) := by decide +kernel
theorem dX12_init_8 : decode cX12_init 8 = .ok (.dup, 1) := by decide +kernel
theorem dX12_init_9 : decode cX12_init 9 = .ok (.invokespecial 11, 3) := by decide +kernel
theorem dX12_init_12 : decode cX12_init 12 = .ok (.putfield 12, 3) := by decide +kernel
theorem dX12_init_15 : decode cX12_init 15 = .ok (.aload_n 0, 1) := by decide +kernel
theorem dX12_init_16 : decode cX12_init 16 = .ok (.new 9, 3) := by decide +kernel
theorem dX12_init_19 : decode cX12_init 19 = .ok (.dup, 1) := by decide +kernel
theorem dX12_init_20 : decode cX12_init 20 = .ok (.invokespecial 11, 3) := by decide +kernel
theorem dX12_init_23 : decode cX12_init 23 = .ok (.putfield 16, 3) := by decide +kernel
theorem dX12_init_26 : decode cX12_init 26 = .ok (.aload_n 0, 1) := by decide +kernel
theorem dX12_init_27 : decode cX12_init 27 = .ok (.new 19, 3) := by decide +kernel
theorem dX12_init_30 : decode cX12_init 30 = .ok (.dup, 1) := by decide +kernel
theorem dX12_init_31 : decode cX12_init 31 = .ok (.invokespecial 21, 3) := by decide +kernel
theorem dX12_init_34 : decode cX12_init 34 = .ok (.putfield 22, 3) := by decide +kernel
theorem dX12_init_37 : decode cX12_init 37 = .ok (.aload_n 0, 1) := by decide +kernel
theorem dX12_init_38 : decode cX12_init 38 = .ok (.new 26, 3) := by decide +kernel
theorem dX12_init_41 : decode cX12_init 41 = .ok (.dup, 1) := by decide +kernel
theorem dX12_init_42 : decode cX12_init 42 = .ok (.invokespecial 28, 3) := by decide +kernel
theorem dX12_init_45 : decode cX12_init 45 = .ok (.putfield 29, 3) := by decide +kernel
theorem dX12_init_48 : decode cX12_init 48 = .ok (.aload_n 0, 1) := by decide +kernel
theorem dX12_init_49 : decode cX12_init 49 = .ok (.new 33, 3) := by decide +kernel
theorem dX12_init_52 : decode cX12_init 52 = .ok (.dup, 1) := by decide +kernel
theorem dX12_init_53 : decode cX12_init 53 = .ok (.invokespecial 35, 3) := by decide +kernel
theorem dX12_init_56 : decode cX12_init 56 = .ok (.putfield 36, 3) := by decide +kernel
theorem dX12_init_59 : decode cX12_init 59 = .ok (.aload_n 0, 1) := by decide +kernel
theorem dX12_init_60 : decode cX12_init 60 = .ok (.new 40, 3) := by decide +kernel
theorem dX12_init_63 : decode cX12_init 63 = .ok (.dup, 1) := by decide +kernel
theorem dX12_init_64 : decode cX12_init 64 = .ok (.invokespecial 42, 3) := by decide +kernel
theorem dX12_init_67 : decode cX12_init 67 = .ok (.putfield 43, 3) := by decide +kernel
theorem dX12_init_70 : decode cX12_init 70 = .ok (.aload_n 0, 1) := by decide +kernel
theorem dX12_init_71 : decode cX12_init 71 = .ok (.new 47, 3) := by decide +kernel
theorem dX12_init_74 : decode cX12_init 74 = .ok (.dup, 1) := by decide +kernel
theorem dX12_init_75 : decode cX12_init 75 = .ok (.invokespecial 49, 3) := by decide +kernel
theorem dX12_init_78 : decode cX12_init 78 = .ok (.putfield 50, 3) := by decide +kernel
theorem dX12_init_81 : decode cX12_init 81 = .ok (.aload_n 0, 1) := by decide +kernel
theorem dX12_init_82 : decode cX12_init 82 = .ok (.new 47, 3) := by decide +kernel
theorem dX12_init_85 : decode cX12_init 85 = .ok (.dup, 1) := by decide +kernel
theorem dX12_init_86 : decode cX12_init 86 = .ok (.invokespecial 49, 3) := by decide +kernel
theorem dX12_init_89 : decode cX12_init 89 = .ok (.putfield 54, 3) := by decide +kernel
theorem dX12_init_92 : decode cX12_init 92 = .ok (.aload_n 0, 1) := by decide +kernel
theorem dX12_init_93 : decode cX12_init 93 = .ok (.bipush 20, 2) := by decide +kernel
theorem dX12_init_95 : decode cX12_init 95 = .ok (.newarray .int, 2) := by decide +kernel
theorem dX12_init_97 : decode cX12_init 97 = .ok (.putfield 57, 3) := by decide +kernel
theorem dX12_init_100 : decode cX12_init 100 = .ok (.aload_n 0, 1) := by decide +kernel
theorem dX12_init_101 : decode cX12_init 101 = .ok (.iconst 0, 1) := by decide +kernel
theorem dX12_init_102 : decode cX12_init 102 = .ok (.putfield 61, 3) := by decide +kernel
theorem dX12_init_105 : decode cX12_init 105 = .ok (.aload_n 0, 1) := by decide +kernel
theorem dX12_init_106 : decode cX12_init 106 = .ok (.iconst (-1), 1) := by decide +kernel
theorem dX12_init_107 : decode cX12_init 107 = .ok (.putfield 65, 3) := by decide +kernel
theorem dX12_init_110 : decode cX12_init 110 = .ok (.aload_n 0, 1) := by decide +kernel
theorem dX12_init_111 : decode cX12_init 111 = .ok (.iconst (-1), 1) := by decide +kernel
theorem dX12_init_112 : decode cX12_init 112 = .ok (.putfield 69, 3) := by decide +kernel
theorem dX12_init_115 : decode cX12_init 115 = .ok (.return_, 1) := by decide +kernel
theorem dX12_addReed_0 : decode cX12_addReed 0 = .ok (.aload_n 0, 1) := by decide +kernel
theorem dX12_addReed_1 : decode cX12_addReed 1 = .ok (.getfield 22, 3) := by decide +kernel
theorem dX12_addReed_4 : decode cX12_addReed 4 = .ok (.aload_n 0, 1) := by decide +kernel
theorem dX12_addReed_5 : decode cX12_addReed 5 = .ok (.getfield 12, 3) := by decide +kernel
theorem dX12_addReed_8 : decode cX12_addReed 8 = .ok (.invokevirtual 72, 3) := by decide +kernel
theorem dX12_addReed_11 : decode cX12_addReed 11 = .ok (.aload_n 0, 1) := by decide +kernel
theorem dX12_addReed_12 : decode cX12_addReed 12 = .ok (.aload_n 0, 1) := by decide +kernel
theorem dX12_addReed_13 : decode cX12_addReed 13 = .ok (.getfield 12, 3) := by decide +kernel
theorem dX12_addReed_16 : decode cX12_addReed 16 = .ok (.iload_n 1, 1) := by decide +kernel
theorem dX12_addReed_17 : decode cX12_addReed 17 = .ok (.iload_n 2, 1) := by decide +kernel
theorem dX12_addReed_18 : decode cX12_addReed 18 = .ok (.invokevirtual 76, 3) := by decide +kernel
theorem dX12_addReed_21 : decode cX12_addReed 21 = .ok (.invokevirtual 80, 3) := by decide +kernel
theorem dX12_addReed_24 : decode cX12_addReed 24 = .ok (.ireturn, 1) := by decide +kernel
theorem dX12_breakReed_0 : decode cX12_breakReed 0 = .ok (.aload_n 0, 1) := by decide +kernel
theorem dX12_breakReed_1 : decode cX12_breakReed 1 = .ok (.getfield 22, 3) := by decide +kernel
theorem dX12_breakReed_4 : decode cX12_breakReed 4 = .ok (.aload_n 0, 1) := by decide +kernel
theorem dX12_breakReed_5 : decode cX12_breakReed 5 = .ok (.getfield 12, 3) := by decide +kernel
theorem dX12_breakReed_8 : decode cX12_breakReed 8 = .ok (.invokevirtual 72, 3) := by decide +kernel
theorem dX12_breakReed_11 : decode cX12_breakReed 11 = .ok (.aload_n 0, 1) := by decide +kernel
theorem dX12_breakReed_12 : decode cX12_breakReed 12 = .ok (.aload_n 0, 1) := by decide +kernel
theorem dX12_breakReed_13 : decode cX12_breakReed 13 = .ok (.getfield 12, 3) := by decide +kernel
theorem dX12_breakReed_16 : decode cX12_breakReed 16 = .ok (.iload_n 1, 1) := by decide +kernel
theorem dX12_breakReed_17 : decode cX12_breakReed 17 = .ok (.iload_n 2, 1) := by decide +kernel
theorem dX12_breakReed_18 : decode cX12_breakReed 18 = .ok (.invokevirtual 84, 3) := by decide +kernel
theorem dX12_breakReed_21 : decode cX12_breakReed 21 = .ok (.invokevirtual 80, 3) := by decide +kernel
theorem dX12_breakReed_24 : decode cX12_breakReed 24 = .ok (.ireturn, 1) := by decide +kernel
theorem dX12_removeReed_0 : decode cX12_removeReed 0 = .ok (.aload_n 0, 1) := by decide +kernel
theorem dX12_removeReed_1 : decode cX12_removeReed 1 = .ok (.getfield 22, 3) := by decide +kernel
theorem dX12_removeReed_4 : decode cX12_removeReed 4 = .ok (.aload_n 0, 1) := by decide +kernel
theorem dX12_removeReed_5 : decode cX12_removeReed 5 = .ok (.getfield 12, 3) := by decide +kernel
theorem dX12_removeReed_8 : decode cX12_removeReed 8 = .ok (.invokevirtual 72, 3) := by decide +kernel
theorem dX12_removeReed_11 : decode cX12_removeReed 11 = .ok (.aload_n 0, 1) := by decide +kernel
theorem dX12_removeReed_12 : decode cX12_removeReed 12 = .ok (.aload_n 0, 1) := by decide +kernel
theorem dX12_removeReed_13 : decode cX12_removeReed 13 = .ok (.getfield 12, 3) := by decide +kernel
theorem dX12_removeReed_16 : decode cX12_removeReed 16 = .ok (.iload_n 1, 1) := by decide +kernel
theorem dX12_removeReed_17 : decode cX12_removeReed 17 = .ok (.iload_n 2, 1) := by decide +kernel
theorem dX12_removeReed_18 : decode cX12_removeReed 18 = .ok (.invokevirtual 87, 3) := by decide +kernel
theorem dX12_removeReed_21 : decode cX12_removeReed 21 = .ok (.invokevirtual 80, 3) := by decide +kernel
theorem dX12_removeReed_24 : decode cX12_removeReed 24 = .ok (.ireturn, 1) := by decide +kernel
theorem dX12_hasReed_0 : decode cX12_hasReed 0 = .ok (.aload_n 0, 1) := by decide +kernel
theorem dX12_hasReed_1 : decode cX12_hasReed 1 = .ok (.getfield 12, 3) := by decide +kernel
theorem dX12_hasReed_4 : decode cX12_hasReed 4 = .ok (.getfield 90, 3) := by decide +kernel
theorem dX12_hasReed_7 : decode cX12_hasReed 7 = .ok (.iload_n 1, 1) := by decide +kernel
theorem dX12_hasReed_8 : decode cX12_hasReed 8 = .ok (.iload_n 2, 1) := by decide +kernel
theorem dX12_hasReed_9 : decode cX12_hasReed 9 = .ok (.invokestatic 94, 3) := by decide +kernel
theorem dX12_hasReed_12 : decode cX12_hasReed 12 = .ok (.invokevirtual 97, 3) := by decide +kernel
theorem dX12_hasReed_15 : decode cX12_hasReed 15 = .ok (.ifCond .eq 7, 3) := by decide +kernel
theorem dX12_hasReed_18 : decode cX12_hasReed 18 = .ok (.iconst 1, 1) := by decide +kernel
theorem dX12_hasReed_19 : decode cX12_hasReed 19 = .ok (.goto 4, 3) := by decide +kernel
theorem dX12_hasReed_22 : decode cX12_hasReed 22 = .ok (.iconst 0, 1) := by decide +kernel
theorem dX12_hasReed_23 : decode cX12_hasReed 23 = .ok (.ireturn, 1) := by decide +kernel
theorem dX12_isPassable_0 : decode cX12_isPassable 0 = .ok (.aload_n 0, 1) := by decide +kernel
theorem dX12_isPassable_1 : decode cX12_isPassable 1 = .ok (.getfield 12, 3) := by decide +kernel
theorem dX12_isPassable_4 : decode cX12_isPassable 4 = .ok (.getfield 90, 3) := by decide +kernel
theorem dX12_isPassable_7 : decode cX12_isPassable 7 = .ok (.iload_n 1, 1) := by decide +kernel
theorem dX12_isPassable_8 : decode cX12_isPassable 8 = .ok (.iload_n 2, 1) := by decide +kernel
theorem dX12_isPassable_9 : decode cX12_isPassable 9 = .ok (.invokestatic 94, 3) := by decide +kernel
theorem dX12_isPassable_12 : decode cX12_isPassable 12 = .ok (.invokevirtual 102, 3) := by decide +kernel
theorem dX12_isPassable_15 : decode cX12_isPassable 15 = .ok (.ireturn, 1) := by decide +kernel
theorem dX12_reedCount_0 : decode cX12_reedCount 0 = .ok (.aload_n 0, 1) := by decide +kernel
theorem dX12_reedCount_1 : decode cX12_reedCount 1 = .ok (.getfield 12, 3) := by decide +kernel
theorem dX12_reedCount_4 : decode cX12_reedCount 4 = .ok (.getfield 90, 3) := by decide +kernel
theorem dX12_reedCount_7 : decode cX12_reedCount 7 = .ok (.getfield 106, 3) := by decide +kernel
theorem dX12_reedCount_10 : decode cX12_reedCount 10 = .ok (.ireturn, 1) := by decide +kernel
theorem dX12_brokenCount_0 : decode cX12_brokenCount 0 = .ok (.aload_n 0, 1) := by decide +kernel
theorem dX12_brokenCount_1 : decode cX12_brokenCount 1 = .ok (.getfield 12, 3) := by decide +kernel
theorem dX12_brokenCount_4 : decode cX12_brokenCount 4 = .ok (.getfield 90, 3) := by decide +kernel
theorem dX12_brokenCount_7 : decode cX12_brokenCount 7 = .ok (.getfield 109, 3) := by decide +kernel
theorem dX12_brokenCount_10 : decode cX12_brokenCount 10 = .ok (.ireturn, 1) := by decide +kernel
theorem dX12_oddReeds_0 : decode cX12_oddReeds 0 = .ok (.aload_n 0, 1) := by decide +kernel
theorem dX12_oddReeds_1 : decode cX12_oddReeds 1 = .ok (.getfield 12, 3) := by decide +kernel
theorem dX12_oddReeds_4 : decode cX12_oddReeds 4 = .ok (.getfield 90, 3) := by decide +kernel
theorem dX12_oddReeds_7 : decode cX12_oddReeds 7 = .ok (.invokevirtual 112, 3) := by decide +kernel
theorem dX12_oddReeds_10 : decode cX12_oddReeds 10 = .ok (.ireturn, 1) := by decide +kernel
theorem dX12_oddReedsByRows_0 : decode cX12_oddReedsByRows 0 = .ok (.aload_n 0, 1) := by decide +kernel
theorem dX12_oddReedsByRows_1 : decode cX12_oddReedsByRows 1 = .ok (.getfield 12, 3) := by decide +kernel
theorem dX12_oddReedsByRows_4 : decode cX12_oddReedsByRows 4 = .ok (.getfield 90, 3) := by decide +kernel
theorem dX12_oddReedsByRows_7 : decode cX12_oddReedsByRows 7 = .ok (.invokevirtual 116, 3) := by decide +kernel
theorem dX12_oddReedsByRows_10 : decode cX12_oddReedsByRows 10 = .ok (.ireturn, 1) := by decide +kernel
theorem dX12_setFog_0 : decode cX12_setFog 0 = .ok (.aload_n 0, 1) := by decide +kernel
theorem dX12_setFog_1 : decode cX12_setFog 1 = .ok (.getfield 22, 3) := by decide +kernel
theorem dX12_setFog_4 : decode cX12_setFog 4 = .ok (.aload_n 0, 1) := by decide +kernel
theorem dX12_setFog_5 : decode cX12_setFog 5 = .ok (.getfield 12, 3) := by decide +kernel
theorem dX12_setFog_8 : decode cX12_setFog 8 = .ok (.invokevirtual 72, 3) := by decide +kernel
theorem dX12_setFog_11 : decode cX12_setFog 11 = .ok (.aload_n 0, 1) := by decide +kernel
theorem dX12_setFog_12 : decode cX12_setFog 12 = .ok (.aload_n 0, 1) := by decide +kernel
theorem dX12_setFog_13 : decode cX12_setFog 13 = .ok (.getfield 12, 3) := by decide +kernel
theorem dX12_setFog_16 : decode cX12_setFog 16 = .ok (.iload_n 1, 1) := by decide +kernel
theorem dX12_setFog_17 : decode cX12_setFog 17 = .ok (.invokevirtual 119, 3) := by decide +kernel
theorem dX12_setFog_20 : decode cX12_setFog 20 = .ok (.invokevirtual 80, 3) := by decide +kernel
theorem dX12_setFog_23 : decode cX12_setFog 23 = .ok (.ireturn, 1) := by decide +kernel
theorem dX12_fog_0 : decode cX12_fog 0 = .ok (.aload_n 0, 1) := by decide +kernel
theorem dX12_fog_1 : decode cX12_fog 1 = .ok (.getfield 12, 3) := by decide +kernel
theorem dX12_fog_4 : decode cX12_fog 4 = .ok (.getfield 122, 3) := by decide +kernel
theorem dX12_fog_7 : decode cX12_fog 7 = .ok (.ireturn, 1) := by decide +kernel
theorem dX12_addBoat_0 : decode cX12_addBoat 0 = .ok (.aload_n 0, 1) := by decide +kernel
theorem dX12_addBoat_1 : decode cX12_addBoat 1 = .ok (.getfield 22, 3) := by decide +kernel
theorem dX12_addBoat_4 : decode cX12_addBoat 4 = .ok (.aload_n 0, 1) := by decide +kernel
theorem dX12_addBoat_5 : decode cX12_addBoat 5 = .ok (.getfield 12, 3) := by decide +kernel
theorem dX12_addBoat_8 : decode cX12_addBoat 8 = .ok (.invokevirtual 72, 3) := by decide +kernel
theorem dX12_addBoat_11 : decode cX12_addBoat 11 = .ok (.aload_n 0, 1) := by decide +kernel
theorem dX12_addBoat_12 : decode cX12_addBoat 12 = .ok (.aload_n 0, 1) := by decide +kernel
theorem dX12_addBoat_13 : decode cX12_addBoat 13 = .ok (.getfield 12, 3) := by decide +kernel
theorem dX12_addBoat_16 : decode cX12_addBoat 16 = .ok (.iload_n 1, 1) := by decide +kernel
theorem dX12_addBoat_17 : decode cX12_addBoat 17 = .ok (.iload_n 2, 1) := by decide +kernel
theorem dX12_addBoat_18 : decode cX12_addBoat 18 = .ok (.invokevirtual 125, 3) := by decide +kernel
theorem dX12_addBoat_21 : decode cX12_addBoat 21 = .ok (.invokevirtual 80, 3) := by decide +kernel
theorem dX12_addBoat_24 : decode cX12_addBoat 24 = .ok (.ireturn, 1) := by decide +kernel
theorem dX12_removeBoat_0 : decode cX12_removeBoat 0 = .ok (.aload_n 0, 1) := by decide +kernel
theorem dX12_removeBoat_1 : decode cX12_removeBoat 1 = .ok (.getfield 22, 3) := by decide +kernel
theorem dX12_removeBoat_4 : decode cX12_removeBoat 4 = .ok (.aload_n 0, 1) := by decide +kernel
theorem dX12_removeBoat_5 : decode cX12_removeBoat 5 = .ok (.getfield 12, 3) := by decide +kernel
theorem dX12_removeBoat_8 : decode cX12_removeBoat 8 = .ok (.invokevirtual 72, 3) := by decide +kernel
theorem dX12_removeBoat_11 : decode cX12_removeBoat 11 = .ok (.aload_n 0, 1) := by decide +kernel
theorem dX12_removeBoat_12 : decode cX12_removeBoat 12 = .ok (.aload_n 0, 1) := by decide +kernel
theorem dX12_removeBoat_13 : decode cX12_removeBoat 13 = .ok (.getfield 12, 3) := by decide +kernel
theorem dX12_removeBoat_16 : decode cX12_removeBoat 16 = .ok (.getfield 128, 3) := by decide +kernel
theorem dX12_removeBoat_19 : decode cX12_removeBoat 19 = .ok (.iload_n 1, 1) := by decide +kernel
theorem dX12_removeBoat_20 : decode cX12_removeBoat 20 = .ok (.invokevirtual 132, 3) := by decide +kernel
theorem dX12_removeBoat_23 : decode cX12_removeBoat 23 = .ok (.invokevirtual 80, 3) := by decide +kernel
theorem dX12_removeBoat_26 : decode cX12_removeBoat 26 = .ok (.ireturn, 1) := by decide +kernel
theorem dX12_boatCount_0 : decode cX12_boatCount 0 = .ok (.aload_n 0, 1) := by decide +kernel
theorem dX12_boatCount_1 : decode cX12_boatCount 1 = .ok (.getfield 12, 3) := by decide +kernel
theorem dX12_boatCount_4 : decode cX12_boatCount 4 = .ok (.getfield 128, 3) := by decide +kernel
theorem dX12_boatCount_7 : decode cX12_boatCount 7 = .ok (.getfield 137, 3) := by decide +kernel
theorem dX12_boatCount_10 : decode cX12_boatCount 10 = .ok (.ireturn, 1) := by decide +kernel
theorem dX12_boatAt_0 : decode cX12_boatAt 0 = .ok (.iload_n 1, 1) := by decide +kernel
theorem dX12_boatAt_1 : decode cX12_boatAt 1 = .ok (.ifCond .lt 17, 3) := by decide +kernel
theorem dX12_boatAt_4 : decode cX12_boatAt 4 = .ok (.iload_n 1, 1) := by decide +kernel
theorem dX12_boatAt_5 : decode cX12_boatAt 5 = .ok (.aload_n 0, 1) := by decide +kernel
theorem dX12_boatAt_6 : decode cX12_boatAt 6 = .ok (.getfield 12, 3) := by decide +kernel
theorem dX12_boatAt_9 : decode cX12_boatAt 9 = .ok (.getfield 128, 3) := by decide +kernel
theorem dX12_boatAt_12 : decode cX12_boatAt 12 = .ok (.getfield 137, 3) := by decide +kernel
theorem dX12_boatAt_15 : decode cX12_boatAt 15 = .ok (.if_icmp .lt 11, 3) := by decide +kernel
theorem dX12_boatAt_18 : decode cX12_boatAt 18 = .ok (.new 138, 3) := by decide +kernel
theorem dX12_boatAt_21 : decode cX12_boatAt 21 = .ok (.dup, 1) := by decide +kernel
theorem dX12_boatAt_22 : decode cX12_boatAt 22 = .ok (.invokespecial 140, 3) := by decide +kernel
theorem dX12_boatAt_25 : decode cX12_boatAt 25 = .ok (.athrow, 1) := by decide +kernel
theorem dX12_boatAt_26 : decode cX12_boatAt 26 = .ok (.aload_n 0, 1) := by decide +kernel
theorem dX12_boatAt_27 : decode cX12_boatAt 27 = .ok (.getfield 12, 3) := by decide +kernel
theorem dX12_boatAt_30 : decode cX12_boatAt 30 = .ok (.getfield 128, 3) := by decide +kernel
theorem dX12_boatAt_33 : decode cX12_boatAt 33 = .ok (.getfield 141, 3) := by decide +kernel
theorem dX12_boatAt_36 : decode cX12_boatAt 36 = .ok (.iload_n 1, 1) := by decide +kernel
theorem dX12_boatAt_37 : decode cX12_boatAt 37 = .ok (.iaload, 1) := by decide +kernel
theorem dX12_boatAt_38 : decode cX12_boatAt 38 = .ok (.ireturn, 1) := by decide +kernel
theorem dX12_columnOf_0 : decode cX12_columnOf 0 = .ok (.aload_n 0, 1) := by decide +kernel
theorem dX12_columnOf_1 : decode cX12_columnOf 1 = .ok (.getfield 12, 3) := by decide +kernel
theorem dX12_columnOf_4 : decode cX12_columnOf 4 = .ok (.getfield 128, 3) := by decide +kernel
theorem dX12_columnOf_7 : decode cX12_columnOf 7 = .ok (.getfield 144, 3) := by decide +kernel
theorem dX12_columnOf_10 : decode cX12_columnOf 10 = .ok (.aload_n 0, 1) := by decide +kernel
theorem dX12_columnOf_11 : decode cX12_columnOf 11 = .ok (.iload_n 1, 1) := by decide +kernel
theorem dX12_columnOf_12 : decode cX12_columnOf 12 = .ok (.invokevirtual 147, 3) := by decide +kernel
theorem dX12_columnOf_15 : decode cX12_columnOf 15 = .ok (.iaload, 1) := by decide +kernel
theorem dX12_columnOf_16 : decode cX12_columnOf 16 = .ok (.invokestatic 150, 3) := by decide +kernel
theorem dX12_columnOf_19 : decode cX12_columnOf 19 = .ok (.ireturn, 1) := by decide +kernel
theorem dX12_rowOf_0 : decode cX12_rowOf 0 = .ok (.aload_n 0, 1) := by decide +kernel
theorem dX12_rowOf_1 : decode cX12_rowOf 1 = .ok (.getfield 12, 3) := by decide +kernel
theorem dX12_rowOf_4 : decode cX12_rowOf 4 = .ok (.getfield 128, 3) := by decide +kernel
theorem dX12_rowOf_7 : decode cX12_rowOf 7 = .ok (.getfield 144, 3) := by decide +kernel
theorem dX12_rowOf_10 : decode cX12_rowOf 10 = .ok (.aload_n 0, 1) := by decide +kernel
theorem dX12_rowOf_11 : decode cX12_rowOf 11 = .ok (.iload_n 1, 1) := by decide +kernel
theorem dX12_rowOf_12 : decode cX12_rowOf 12 = .ok (.invokevirtual 147, 3) := by decide +kernel
theorem dX12_rowOf_15 : decode cX12_rowOf 15 = .ok (.iaload, 1) := by decide +kernel
theorem dX12_rowOf_16 : decode cX12_rowOf 16 = .ok (.invokestatic 153, 3) := by decide +kernel
theorem dX12_rowOf_19 : decode cX12_rowOf 19 = .ok (.ireturn, 1) := by decide +kernel
theorem dX12_imageColumnOf_0 : decode cX12_imageColumnOf 0 = .ok (.aload_n 0, 1) := by decide +kernel
theorem dX12_imageColumnOf_1 : decode cX12_imageColumnOf 1 = .ok (.getfield 12, 3) := by decide +kernel
theorem dX12_imageColumnOf_4 : decode cX12_imageColumnOf 4 = .ok (.getfield 128, 3) := by decide +kernel
theorem dX12_imageColumnOf_7 : decode cX12_imageColumnOf 7 = .ok (.getfield 144, 3) := by decide +kernel
theorem dX12_imageColumnOf_10 : decode cX12_imageColumnOf 10 = .ok (.aload_n 0, 1) := by decide +kernel
theorem dX12_imageColumnOf_11 : decode cX12_imageColumnOf 11 = .ok (.iload_n 1, 1) := by decide +kernel
theorem dX12_imageColumnOf_12 : decode cX12_imageColumnOf 12 = .ok (.invokevirtual 147, 3) := by decide +kernel
theorem dX12_imageColumnOf_15 : decode cX12_imageColumnOf 15 = .ok (.iaload, 1) := by decide +kernel
theorem dX12_imageColumnOf_16 : decode cX12_imageColumnOf 16 = .ok (.invokestatic 156, 3) := by decide +kernel
theorem dX12_imageColumnOf_19 : decode cX12_imageColumnOf 19 = .ok (.invokestatic 150, 3) := by decide +kernel
theorem dX12_imageColumnOf_22 : decode cX12_imageColumnOf 22 = .ok (.ireturn, 1) := by decide +kernel
theorem dX12_faresOf_0 : decode cX12_faresOf 0 = .ok (.aload_n 0, 1) := by decide +kernel
theorem dX12_faresOf_1 : decode cX12_faresOf 1 = .ok (.getfield 12, 3) := by decide +kernel
theorem dX12_faresOf_4 : decode cX12_faresOf 4 = .ok (.getfield 128, 3) := by decide +kernel
theorem dX12_faresOf_7 : decode cX12_faresOf 7 = .ok (.getfield 159, 3) := by decide +kernel
theorem dX12_faresOf_10 : decode cX12_faresOf 10 = .ok (.aload_n 0, 1) := by decide +kernel
theorem dX12_faresOf_11 : decode cX12_faresOf 11 = .ok (.iload_n 1, 1) := by decide +kernel
theorem dX12_faresOf_12 : decode cX12_faresOf 12 = .ok (.invokevirtual 147, 3) := by decide +kernel
theorem dX12_faresOf_15 : decode cX12_faresOf 15 = .ok (.iaload, 1) := by decide +kernel
theorem dX12_faresOf_16 : decode cX12_faresOf 16 = .ok (.ireturn, 1) := by decide +kernel
theorem dX12_boatAtRank_0 : decode cX12_boatAtRank 0 = .ok (.aload_n 0, 1) := by decide +kernel
theorem dX12_boatAtRank_1 : decode cX12_boatAtRank 1 = .ok (.getfield 12, 3) := by decide +kernel
theorem dX12_boatAtRank_4 : decode cX12_boatAtRank 4 = .ok (.getfield 128, 3) := by decide +kernel
theorem dX12_boatAtRank_7 : decode cX12_boatAtRank 7 = .ok (.iload_n 1, 1) := by decide +kernel
theorem dX12_boatAtRank_8 : decode cX12_boatAtRank 8 = .ok (.invokevirtual 162, 3) := by decide +kernel
theorem dX12_boatAtRank_11 : decode cX12_boatAtRank 11 = .ok (.istore_n 2, 1) := by decide +kernel
theorem dX12_boatAtRank_12 : decode cX12_boatAtRank 12 = .ok (.iload_n 2, 1) := by decide +kernel
theorem dX12_boatAtRank_13 : decode cX12_boatAtRank 13 = .ok (.iconst (-1), 1) := by decide +kernel
theorem dX12_boatAtRank_14 : decode cX12_boatAtRank 14 = .ok (.if_icmp .ne 11, 3) := by decide +kernel
theorem dX12_boatAtRank_17 : decode cX12_boatAtRank 17 = .ok (.new 165, 3) := by decide +kernel
theorem dX12_boatAtRank_20 : decode cX12_boatAtRank 20 = .ok (.dup, 1) := by decide +kernel
theorem dX12_boatAtRank_21 : decode cX12_boatAtRank 21 = .ok (.invokespecial 167, 3) := by decide +kernel
theorem dX12_boatAtRank_24 : decode cX12_boatAtRank 24 = .ok (.athrow, 1) := by decide +kernel
theorem dX12_boatAtRank_25 : decode cX12_boatAtRank 25 = .ok (.aload_n 0, 1) := by decide +kernel
theorem dX12_boatAtRank_26 : decode cX12_boatAtRank 26 = .ok (.getfield 12, 3) := by decide +kernel
theorem dX12_boatAtRank_29 : decode cX12_boatAtRank 29 = .ok (.getfield 128, 3) := by decide +kernel
theorem dX12_boatAtRank_32 : decode cX12_boatAtRank 32 = .ok (.getfield 141, 3) := by decide +kernel
theorem dX12_boatAtRank_35 : decode cX12_boatAtRank 35 = .ok (.iload_n 2, 1) := by decide +kernel
theorem dX12_boatAtRank_36 : decode cX12_boatAtRank 36 = .ok (.iaload, 1) := by decide +kernel
theorem dX12_boatAtRank_37 : decode cX12_boatAtRank 37 = .ok (.ireturn, 1) := by decide +kernel
theorem dX12_addMove_0 : decode cX12_addMove 0 = .ok (.aload_n 0, 1) := by decide +kernel
theorem dX12_addMove_1 : decode cX12_addMove 1 = .ok (.getfield 22, 3) := by decide +kernel
theorem dX12_addMove_4 : decode cX12_addMove 4 = .ok (.aload_n 0, 1) := by decide +kernel
theorem dX12_addMove_5 : decode cX12_addMove 5 = .ok (.getfield 12, 3) := by decide +kernel
theorem dX12_addMove_8 : decode cX12_addMove 8 = .ok (.invokevirtual 72, 3) := by decide +kernel
theorem dX12_addMove_11 : decode cX12_addMove 11 = .ok (.aload_n 0, 1) := by decide +kernel
theorem dX12_addMove_12 : decode cX12_addMove 12 = .ok (.aload_n 0, 1) := by decide +kernel
theorem dX12_addMove_13 : decode cX12_addMove 13 = .ok (.getfield 12, 3) := by decide +kernel
theorem dX12_addMove_16 : decode cX12_addMove 16 = .ok (.getfield 168, 3) := by decide +kernel
theorem dX12_addMove_19 : decode cX12_addMove 19 = .ok (.iload_n 1, 1) := by decide +kernel
theorem dX12_addMove_20 : decode cX12_addMove 20 = .ok (.iload_n 2, 1) := by decide +kernel
theorem dX12_addMove_21 : decode cX12_addMove 21 = .ok (.invokevirtual 172, 3) := by decide +kernel
theorem dX12_addMove_24 : decode cX12_addMove 24 = .ok (.invokevirtual 80, 3) := by decide +kernel
theorem dX12_addMove_27 : decode cX12_addMove 27 = .ok (.ireturn, 1) := by decide +kernel
theorem dX12_clearPlan_0 : decode cX12_clearPlan 0 = .ok (.aload_n 0, 1) := by decide +kernel
theorem dX12_clearPlan_1 : decode cX12_clearPlan 1 = .ok (.getfield 22, 3) := by decide +kernel
theorem dX12_clearPlan_4 : decode cX12_clearPlan 4 = .ok (.aload_n 0, 1) := by decide +kernel
theorem dX12_clearPlan_5 : decode cX12_clearPlan 5 = .ok (.getfield 12, 3) := by decide +kernel
theorem dX12_clearPlan_8 : decode cX12_clearPlan 8 = .ok (.invokevirtual 72, 3) := by decide +kernel
theorem dX12_clearPlan_11 : decode cX12_clearPlan 11 = .ok (.aload_n 0, 1) := by decide +kernel
theorem dX12_clearPlan_12 : decode cX12_clearPlan 12 = .ok (.aload_n 0, 1) := by decide +kernel
theorem dX12_clearPlan_13 : decode cX12_clearPlan 13 = .ok (.getfield 12, 3) := by decide +kernel
theorem dX12_clearPlan_16 : decode cX12_clearPlan 16 = .ok (.getfield 168, 3) := by decide +kernel
theorem dX12_clearPlan_19 : decode cX12_clearPlan 19 = .ok (.iload_n 1, 1) := by decide +kernel
theorem dX12_clearPlan_20 : decode cX12_clearPlan 20 = .ok (.invokevirtual 178, 3) := by decide +kernel
theorem dX12_clearPlan_23 : decode cX12_clearPlan 23 = .ok (.invokevirtual 80, 3) := by decide +kernel
theorem dX12_clearPlan_26 : decode cX12_clearPlan 26 = .ok (.ireturn, 1) := by decide +kernel
theorem dX12_mirror_0 : decode cX12_mirror 0 = .ok (.aload_n 0, 1) := by decide +kernel
theorem dX12_mirror_1 : decode cX12_mirror 1 = .ok (.getfield 22, 3) := by decide +kernel
theorem dX12_mirror_4 : decode cX12_mirror 4 = .ok (.aload_n 0, 1) := by decide +kernel
theorem dX12_mirror_5 : decode cX12_mirror 5 = .ok (.getfield 12, 3) := by decide +kernel
theorem dX12_mirror_8 : decode cX12_mirror 8 = .ok (.invokevirtual 72, 3) := by decide +kernel
theorem dX12_mirror_11 : decode cX12_mirror 11 = .ok (.aload_n 0, 1) := by decide +kernel
theorem dX12_mirror_12 : decode cX12_mirror 12 = .ok (.aload_n 0, 1) := by decide +kernel
theorem dX12_mirror_13 : decode cX12_mirror 13 = .ok (.getfield 12, 3) := by decide +kernel
theorem dX12_mirror_16 : decode cX12_mirror 16 = .ok (.getfield 168, 3) := by decide +kernel
theorem dX12_mirror_19 : decode cX12_mirror 19 = .ok (.iload_n 1, 1) := by decide +kernel
theorem dX12_mirror_20 : decode cX12_mirror 20 = .ok (.iload_n 2, 1) := by decide +kernel
theorem dX12_mirror_21 : decode cX12_mirror 21 = .ok (.invokevirtual 181, 3) := by decide +kernel
theorem dX12_mirror_24 : decode cX12_mirror 24 = .ok (.invokevirtual 80, 3) := by decide +kernel
theorem dX12_mirror_27 : decode cX12_mirror 27 = .ok (.ireturn, 1) := by decide +kernel
theorem dX12_reverse_0 : decode cX12_reverse 0 = .ok (.aload_n 0, 1) := by decide +kernel
theorem dX12_reverse_1 : decode cX12_reverse 1 = .ok (.getfield 22, 3) := by decide +kernel
theorem dX12_reverse_4 : decode cX12_reverse 4 = .ok (.aload_n 0, 1) := by decide +kernel
theorem dX12_reverse_5 : decode cX12_reverse 5 = .ok (.getfield 12, 3) := by decide +kernel
theorem dX12_reverse_8 : decode cX12_reverse 8 = .ok (.invokevirtual 72, 3) := by decide +kernel
theorem dX12_reverse_11 : decode cX12_reverse 11 = .ok (.aload_n 0, 1) := by decide +kernel
theorem dX12_reverse_12 : decode cX12_reverse 12 = .ok (.aload_n 0, 1) := by decide +kernel
theorem dX12_reverse_13 : decode cX12_reverse 13 = .ok (.getfield 12, 3) := by decide +kernel
theorem dX12_reverse_16 : decode cX12_reverse 16 = .ok (.getfield 168, 3) := by decide +kernel
theorem dX12_reverse_19 : decode cX12_reverse 19 = .ok (.iload_n 1, 1) := by decide +kernel
theorem dX12_reverse_20 : decode cX12_reverse 20 = .ok (.iload_n 2, 1) := by decide +kernel
theorem dX12_reverse_21 : decode cX12_reverse 21 = .ok (.invokevirtual 184, 3) := by decide +kernel
theorem dX12_reverse_24 : decode cX12_reverse 24 = .ok (.invokevirtual 80, 3) := by decide +kernel
theorem dX12_reverse_27 : decode cX12_reverse 27 = .ok (.ireturn, 1) := by decide +kernel
theorem dX12_reduce_0 : decode cX12_reduce 0 = .ok (.aload_n 0, 1) := by decide +kernel
theorem dX12_reduce_1 : decode cX12_reduce 1 = .ok (.getfield 22, 3) := by decide +kernel
theorem dX12_reduce_4 : decode cX12_reduce 4 = .ok (.aload_n 0, 1) := by decide +kernel
theorem dX12_reduce_5 : decode cX12_reduce 5 = .ok (.getfield 12, 3) := by decide +kernel
theorem dX12_reduce_8 : decode cX12_reduce 8 = .ok (.invokevirtual 72, 3) := by decide +kernel
theorem dX12_reduce_11 : decode cX12_reduce 11 = .ok (.aload_n 0, 1) := by decide +kernel
theorem dX12_reduce_12 : decode cX12_reduce 12 = .ok (.aload_n 0, 1) := by decide +kernel
theorem dX12_reduce_13 : decode cX12_reduce 13 = .ok (.getfield 12, 3) := by decide +kernel
theorem dX12_reduce_16 : decode cX12_reduce 16 = .ok (.getfield 168, 3) := by decide +kernel
theorem dX12_reduce_19 : decode cX12_reduce 19 = .ok (.iload_n 1, 1) := by decide +kernel
theorem dX12_reduce_20 : decode cX12_reduce 20 = .ok (.invokevirtual 187, 3) := by decide +kernel
theorem dX12_reduce_23 : decode cX12_reduce 23 = .ok (.invokevirtual 80, 3) := by decide +kernel
theorem dX12_reduce_26 : decode cX12_reduce 26 = .ok (.ireturn, 1) := by decide +kernel
theorem dX12_reducedLength_0 : decode cX12_reducedLength 0 = .ok (.aload_n 0, 1) := by decide +kernel
theorem dX12_reducedLength_1 : decode cX12_reducedLength 1 = .ok (.getfield 12, 3) := by decide +kernel
theorem dX12_reducedLength_4 : decode cX12_reducedLength 4 = .ok (.getfield 168, 3) := by decide +kernel
theorem dX12_reducedLength_7 : decode cX12_reducedLength 7 = .ok (.iload_n 1, 1) := by decide +kernel
theorem dX12_reducedLength_8 : decode cX12_reducedLength 8 = .ok (.invokestatic 190, 3) := by decide +kernel
theorem dX12_reducedLength_11 : decode cX12_reducedLength 11 = .ok (.aload_n 0, 1) := by decide +kernel
theorem dX12_reducedLength_12 : decode cX12_reducedLength 12 = .ok (.getfield 57, 3) := by decide +kernel
theorem dX12_reducedLength_15 : decode cX12_reducedLength 15 = .ok (.invokevirtual 193, 3) := by decide +kernel
theorem dX12_reducedLength_18 : decode cX12_reducedLength 18 = .ok (.ireturn, 1) := by decide +kernel
theorem dX12_planLength_0 : decode cX12_planLength 0 = .ok (.aload_n 0, 1) := by decide +kernel
theorem dX12_planLength_1 : decode cX12_planLength 1 = .ok (.getfield 12, 3) := by decide +kernel
theorem dX12_planLength_4 : decode cX12_planLength 4 = .ok (.getfield 168, 3) := by decide +kernel
theorem dX12_planLength_7 : decode cX12_planLength 7 = .ok (.getfield 197, 3) := by decide +kernel
theorem dX12_planLength_10 : decode cX12_planLength 10 = .ok (.iload_n 1, 1) := by decide +kernel
theorem dX12_planLength_11 : decode cX12_planLength 11 = .ok (.invokestatic 190, 3) := by decide +kernel
theorem dX12_planLength_14 : decode cX12_planLength 14 = .ok (.iaload, 1) := by decide +kernel
theorem dX12_planLength_15 : decode cX12_planLength 15 = .ok (.ireturn, 1) := by decide +kernel
theorem dX12_moveAt_0 : decode cX12_moveAt 0 = .ok (.iload_n 1, 1) := by decide +kernel
theorem dX12_moveAt_1 : decode cX12_moveAt 1 = .ok (.invokestatic 190, 3) := by decide +kernel
theorem dX12_moveAt_4 : decode cX12_moveAt 4 = .ok (.istore_n 3, 1) := by decide +kernel
theorem dX12_moveAt_5 : decode cX12_moveAt 5 = .ok (.iload_n 2, 1) := by decide +kernel
theorem dX12_moveAt_6 : decode cX12_moveAt 6 = .ok (.ifCond .lt 19, 3) := by decide +kernel
theorem dX12_moveAt_9 : decode cX12_moveAt 9 = .ok (.iload_n 2, 1) := by decide +kernel
theorem dX12_moveAt_10 : decode cX12_moveAt 10 = .ok (.aload_n 0, 1) := by decide +kernel
theorem dX12_moveAt_11 : decode cX12_moveAt 11 = .ok (.getfield 12, 3) := by decide +kernel
theorem dX12_moveAt_14 : decode cX12_moveAt 14 = .ok (.getfield 168, 3) := by decide +kernel
theorem dX12_moveAt_17 : decode cX12_moveAt 17 = .ok (.getfield 197, 3) := by decide +kernel
theorem dX12_moveAt_20 : decode cX12_moveAt 20 = .ok (.iload_n 3, 1) := by decide +kernel
theorem dX12_moveAt_21 : decode cX12_moveAt 21 = .ok (.iaload, 1) := by decide +kernel
theorem dX12_moveAt_22 : decode cX12_moveAt 22 = .ok (.if_icmp .lt 11, 3) := by decide +kernel
theorem dX12_moveAt_25 : decode cX12_moveAt 25 = .ok (.new 165, 3) := by decide +kernel
theorem dX12_moveAt_28 : decode cX12_moveAt 28 = .ok (.dup, 1) := by decide +kernel
theorem dX12_moveAt_29 : decode cX12_moveAt 29 = .ok (.invokespecial 167, 3) := by decide +kernel
theorem dX12_moveAt_32 : decode cX12_moveAt 32 = .ok (.athrow, 1) := by decide +kernel
theorem dX12_moveAt_33 : decode cX12_moveAt 33 = .ok (.aload_n 0, 1) := by decide +kernel
theorem dX12_moveAt_34 : decode cX12_moveAt 34 = .ok (.getfield 12, 3) := by decide +kernel
theorem dX12_moveAt_37 : decode cX12_moveAt 37 = .ok (.getfield 168, 3) := by decide +kernel
theorem dX12_moveAt_40 : decode cX12_moveAt 40 = .ok (.iload_n 3, 1) := by decide +kernel
theorem dX12_moveAt_41 : decode cX12_moveAt 41 = .ok (.iload_n 2, 1) := by decide +kernel
theorem dX12_moveAt_42 : decode cX12_moveAt 42 = .ok (.invokevirtual 200, 3) := by decide +kernel
theorem dX12_moveAt_45 : decode cX12_moveAt 45 = .ok (.invokestatic 203, 3) := by decide +kernel
theorem dX12_moveAt_48 : decode cX12_moveAt 48 = .ok (.ireturn, 1) := by decide +kernel
theorem dX12_areMirrored_0 : decode cX12_areMirrored 0 = .ok (.aload_n 0, 1) := by decide +kernel
theorem dX12_areMirrored_1 : decode cX12_areMirrored 1 = .ok (.getfield 12, 3) := by decide +kernel
theorem dX12_areMirrored_4 : decode cX12_areMirrored 4 = .ok (.getfield 168, 3) := by decide +kernel
theorem dX12_areMirrored_7 : decode cX12_areMirrored 7 = .ok (.iload_n 1, 1) := by decide +kernel
theorem dX12_areMirrored_8 : decode cX12_areMirrored 8 = .ok (.invokestatic 190, 3) := by decide +kernel
theorem dX12_areMirrored_11 : decode cX12_areMirrored 11 = .ok (.iload_n 2, 1) := by decide +kernel
theorem dX12_areMirrored_12 : decode cX12_areMirrored 12 = .ok (.invokestatic 190, 3) := by decide +kernel
theorem dX12_areMirrored_15 : decode cX12_areMirrored 15 = .ok (.invokevirtual 207, 3) := by decide +kernel
theorem dX12_areMirrored_18 : decode cX12_areMirrored 18 = .ok (.ireturn, 1) := by decide +kernel
theorem dX12_sail_0 : decode cX12_sail 0 = .ok (.aload_n 0, 1) := by decide +kernel
theorem dX12_sail_1 : decode cX12_sail 1 = .ok (.getfield 22, 3) := by decide +kernel
theorem dX12_sail_4 : decode cX12_sail 4 = .ok (.aload_n 0, 1) := by decide +kernel
theorem dX12_sail_5 : decode cX12_sail 5 = .ok (.getfield 12, 3) := by decide +kernel
theorem dX12_sail_8 : decode cX12_sail 8 = .ok (.invokevirtual 72, 3) := by decide +kernel
theorem dX12_sail_11 : decode cX12_sail 11 = .ok (.aload_n 0, 1) := by decide +kernel
theorem dX12_sail_12 : decode cX12_sail 12 = .ok (.aload_n 0, 1) := by decide +kernel
theorem dX12_sail_13 : decode cX12_sail 13 = .ok (.getfield 12, 3) := by decide +kernel
theorem dX12_sail_16 : decode cX12_sail 16 = .ok (.iload_n 1, 1) := by decide +kernel
theorem dX12_sail_17 : decode cX12_sail 17 = .ok (.iload_n 2, 1) := by decide +kernel
theorem dX12_sail_18 : decode cX12_sail 18 = .ok (.invokevirtual 211, 3) := by decide +kernel
theorem dX12_sail_21 : decode cX12_sail 21 = .ok (.invokevirtual 80, 3) := by decide +kernel
theorem dX12_sail_24 : decode cX12_sail 24 = .ok (.ireturn, 1) := by decide +kernel
theorem dX12_blockedMove_0 : decode cX12_blockedMove 0 = .ok (.aload_n 0, 1) := by decide +kernel
theorem dX12_blockedMove_1 : decode cX12_blockedMove 1 = .ok (.iload_n 1, 1) := by decide +kernel
theorem dX12_blockedMove_2 : decode cX12_blockedMove 2 = .ok (.invokevirtual 147, 3) := by decide +kernel
theorem dX12_blockedMove_5 : decode cX12_blockedMove 5 = .ok (.istore_n 3, 1) := by decide +kernel
theorem dX12_blockedMove_6 : decode cX12_blockedMove 6 = .ok (.aload_n 0, 1) := by decide +kernel
theorem dX12_blockedMove_7 : decode cX12_blockedMove 7 = .ok (.getfield 12, 3) := by decide +kernel
theorem dX12_blockedMove_10 : decode cX12_blockedMove 10 = .ok (.iload_n 3, 1) := by decide +kernel
theorem dX12_blockedMove_11 : decode cX12_blockedMove 11 = .ok (.iload_n 2, 1) := by decide +kernel
theorem dX12_blockedMove_12 : decode cX12_blockedMove 12 = .ok (.invokestatic 190, 3) := by decide +kernel
theorem dX12_blockedMove_15 : decode cX12_blockedMove 15 = .ok (.invokevirtual 214, 3) := by decide +kernel
theorem dX12_blockedMove_18 : decode cX12_blockedMove 18 = .ok (.ireturn, 1) := by decide +kernel
theorem dX12_wayLength_0 : decode cX12_wayLength 0 = .ok (.aload_n 0, 1) := by decide +kernel
theorem dX12_wayLength_1 : decode cX12_wayLength 1 = .ok (.getfield 12, 3) := by decide +kernel
theorem dX12_wayLength_4 : decode cX12_wayLength 4 = .ok (.getfield 128, 3) := by decide +kernel
theorem dX12_wayLength_7 : decode cX12_wayLength 7 = .ok (.getfield 144, 3) := by decide +kernel
theorem dX12_wayLength_10 : decode cX12_wayLength 10 = .ok (.aload_n 0, 1) := by decide +kernel
theorem dX12_wayLength_11 : decode cX12_wayLength 11 = .ok (.iload_n 1, 1) := by decide +kernel
theorem dX12_wayLength_12 : decode cX12_wayLength 12 = .ok (.invokevirtual 147, 3) := by decide +kernel
theorem dX12_wayLength_15 : decode cX12_wayLength 15 = .ok (.iaload, 1) := by decide +kernel
theorem dX12_wayLength_16 : decode cX12_wayLength 16 = .ok (.istore 4, 2) := by decide +kernel
theorem dX12_wayLength_18 : decode cX12_wayLength 18 = .ok (.iload_n 2, 1) := by decide +kernel
theorem dX12_wayLength_19 : decode cX12_wayLength 19 = .ok (.iload_n 3, 1) := by decide +kernel
theorem dX12_wayLength_20 : decode cX12_wayLength 20 = .ok (.invokestatic 94, 3) := by decide +kernel
theorem dX12_wayLength_23 : decode cX12_wayLength 23 = .ok (.istore 5, 2) := by decide +kernel
theorem dX12_wayLength_25 : decode cX12_wayLength 25 = .ok (.aload_n 0, 1) := by decide +kernel
theorem dX12_wayLength_26 : decode cX12_wayLength 26 = .ok (.getfield 29, 3) := by decide +kernel
theorem dX12_wayLength_29 : decode cX12_wayLength 29 = .ok (.aload_n 0, 1) := by decide +kernel
theorem dX12_wayLength_30 : decode cX12_wayLength 30 = .ok (.getfield 12, 3) := by decide +kernel
theorem dX12_wayLength_33 : decode cX12_wayLength 33 = .ok (.invokevirtual 217, 3) := by decide +kernel
theorem dX12_wayLength_36 : decode cX12_wayLength 36 = .ok (.aload_n 0, 1) := by decide +kernel
theorem dX12_wayLength_37 : decode cX12_wayLength 37 = .ok (.getfield 29, 3) := by decide +kernel
theorem dX12_wayLength_40 : decode cX12_wayLength 40 = .ok (.iload 4, 2) := by decide +kernel
theorem dX12_wayLength_42 : decode cX12_wayLength 42 = .ok (.invokevirtual 220, 3) := by decide +kernel
theorem dX12_wayLength_45 : decode cX12_wayLength 45 = .ok (.aload_n 0, 1) := by decide +kernel
theorem dX12_wayLength_46 : decode cX12_wayLength 46 = .ok (.getfield 29, 3) := by decide +kernel
theorem dX12_wayLength_49 : decode cX12_wayLength 49 = .ok (.getfield 224, 3) := by decide +kernel
theorem dX12_wayLength_52 : decode cX12_wayLength 52 = .ok (.iload 5, 2) := by decide +kernel
theorem dX12_wayLength_54 : decode cX12_wayLength 54 = .ok (.iaload, 1) := by decide +kernel
theorem dX12_wayLength_55 : decode cX12_wayLength 55 = .ok (.invokestatic 227, 3) := by decide +kernel
theorem dX12_wayLength_58 : decode cX12_wayLength 58 = .ok (.ireturn, 1) := by decide +kernel
theorem dX12_wayLengthByRounds_0 : decode cX12_wayLengthByRounds 0 = .ok (.aload_n 0, 1) := by decide +kernel
theorem dX12_wayLengthByRounds_1 : decode cX12_wayLengthByRounds 1 = .ok (.getfield 12, 3) := by decide +kernel
theorem dX12_wayLengthByRounds_4 : decode cX12_wayLengthByRounds 4 = .ok (.getfield 128, 3) := by decide +kernel
theorem dX12_wayLengthByRounds_7 : decode cX12_wayLengthByRounds 7 = .ok (.getfield 144, 3) := by decide +kernel
theorem dX12_wayLengthByRounds_10 : decode cX12_wayLengthByRounds 10 = .ok (.aload_n 0, 1) := by decide +kernel
theorem dX12_wayLengthByRounds_11 : decode cX12_wayLengthByRounds 11 = .ok (.iload_n 1, 1) := by decide +kernel
theorem dX12_wayLengthByRounds_12 : decode cX12_wayLengthByRounds 12 = .ok (.invokevirtual 147, 3) := by decide +kernel
theorem dX12_wayLengthByRounds_15 : decode cX12_wayLengthByRounds 15 = .ok (.iaload, 1) := by decide +kernel
theorem dX12_wayLengthByRounds_16 : decode cX12_wayLengthByRounds 16 = .ok (.istore 4, 2) := by decide +kernel
theorem dX12_wayLengthByRounds_18 : decode cX12_wayLengthByRounds 18 = .ok (.iload_n 2, 1) := by decide +kernel
theorem dX12_wayLengthByRounds_19 : decode cX12_wayLengthByRounds 19 = .ok (.iload_n 3, 1) := by decide +kernel
theorem dX12_wayLengthByRounds_20 : decode cX12_wayLengthByRounds 20 = .ok (.invokestatic 94, 3) := by decide +kernel
theorem dX12_wayLengthByRounds_23 : decode cX12_wayLengthByRounds 23 = .ok (.istore 5, 2) := by decide +kernel
theorem dX12_wayLengthByRounds_25 : decode cX12_wayLengthByRounds 25 = .ok (.aload_n 0, 1) := by decide +kernel
theorem dX12_wayLengthByRounds_26 : decode cX12_wayLengthByRounds 26 = .ok (.getfield 29, 3) := by decide +kernel
theorem dX12_wayLengthByRounds_29 : decode cX12_wayLengthByRounds 29 = .ok (.aload_n 0, 1) := by decide +kernel
theorem dX12_wayLengthByRounds_30 : decode cX12_wayLengthByRounds 30 = .ok (.getfield 12, 3) := by decide +kernel
theorem dX12_wayLengthByRounds_33 : decode cX12_wayLengthByRounds 33 = .ok (.invokevirtual 217, 3) := by decide +kernel
theorem dX12_wayLengthByRounds_36 : decode cX12_wayLengthByRounds 36 = .ok (.aload_n 0, 1) := by decide +kernel
theorem dX12_wayLengthByRounds_37 : decode cX12_wayLengthByRounds 37 = .ok (.getfield 29, 3) := by decide +kernel
theorem dX12_wayLengthByRounds_40 : decode cX12_wayLengthByRounds 40 = .ok (.iload 4, 2) := by decide +kernel
theorem dX12_wayLengthByRounds_42 : decode cX12_wayLengthByRounds 42 = .ok (.invokevirtual 230, 3) := by decide +kernel
theorem dX12_wayLengthByRounds_45 : decode cX12_wayLengthByRounds 45 = .ok (.aload_n 0, 1) := by decide +kernel
theorem dX12_wayLengthByRounds_46 : decode cX12_wayLengthByRounds 46 = .ok (.getfield 29, 3) := by decide +kernel
theorem dX12_wayLengthByRounds_49 : decode cX12_wayLengthByRounds 49 = .ok (.getfield 233, 3) := by decide +kernel
theorem dX12_wayLengthByRounds_52 : decode cX12_wayLengthByRounds 52 = .ok (.iload 5, 2) := by decide +kernel
theorem dX12_wayLengthByRounds_54 : decode cX12_wayLengthByRounds 54 = .ok (.iaload, 1) := by decide +kernel
theorem dX12_wayLengthByRounds_55 : decode cX12_wayLengthByRounds 55 = .ok (.invokestatic 227, 3) := by decide +kernel
theorem dX12_wayLengthByRounds_58 : decode cX12_wayLengthByRounds 58 = .ok (.ireturn, 1) := by decide +kernel
theorem dX12_wayCost_0 : decode cX12_wayCost 0 = .ok (.aload_n 0, 1) := by decide +kernel
theorem dX12_wayCost_1 : decode cX12_wayCost 1 = .ok (.getfield 12, 3) := by decide +kernel
theorem dX12_wayCost_4 : decode cX12_wayCost 4 = .ok (.getfield 128, 3) := by decide +kernel
theorem dX12_wayCost_7 : decode cX12_wayCost 7 = .ok (.getfield 144, 3) := by decide +kernel
theorem dX12_wayCost_10 : decode cX12_wayCost 10 = .ok (.aload_n 0, 1) := by decide +kernel
theorem dX12_wayCost_11 : decode cX12_wayCost 11 = .ok (.iload_n 1, 1) := by decide +kernel
theorem dX12_wayCost_12 : decode cX12_wayCost 12 = .ok (.invokevirtual 147, 3) := by decide +kernel
theorem dX12_wayCost_15 : decode cX12_wayCost 15 = .ok (.iaload, 1) := by decide +kernel
theorem dX12_wayCost_16 : decode cX12_wayCost 16 = .ok (.istore 4, 2) := by decide +kernel
theorem dX12_wayCost_18 : decode cX12_wayCost 18 = .ok (.iload_n 2, 1) := by decide +kernel
theorem dX12_wayCost_19 : decode cX12_wayCost 19 = .ok (.iload_n 3, 1) := by decide +kernel
theorem dX12_wayCost_20 : decode cX12_wayCost 20 = .ok (.invokestatic 94, 3) := by decide +kernel
theorem dX12_wayCost_23 : decode cX12_wayCost 23 = .ok (.istore 5, 2) := by decide +kernel
theorem dX12_wayCost_25 : decode cX12_wayCost 25 = .ok (.aload_n 0, 1) := by decide +kernel
theorem dX12_wayCost_26 : decode cX12_wayCost 26 = .ok (.getfield 29, 3) := by decide +kernel
theorem dX12_wayCost_29 : decode cX12_wayCost 29 = .ok (.aload_n 0, 1) := by decide +kernel
theorem dX12_wayCost_30 : decode cX12_wayCost 30 = .ok (.getfield 12, 3) := by decide +kernel
theorem dX12_wayCost_33 : decode cX12_wayCost 33 = .ok (.invokevirtual 236, 3) := by decide +kernel
theorem dX12_wayCost_36 : decode cX12_wayCost 36 = .ok (.aload_n 0, 1) := by decide +kernel
theorem dX12_wayCost_37 : decode cX12_wayCost 37 = .ok (.getfield 29, 3) := by decide +kernel
theorem dX12_wayCost_40 : decode cX12_wayCost 40 = .ok (.iload 4, 2) := by decide +kernel
theorem dX12_wayCost_42 : decode cX12_wayCost 42 = .ok (.invokevirtual 239, 3) := by decide +kernel
theorem dX12_wayCost_45 : decode cX12_wayCost 45 = .ok (.aload_n 0, 1) := by decide +kernel
theorem dX12_wayCost_46 : decode cX12_wayCost 46 = .ok (.getfield 29, 3) := by decide +kernel
theorem dX12_wayCost_49 : decode cX12_wayCost 49 = .ok (.getfield 224, 3) := by decide +kernel
theorem dX12_wayCost_52 : decode cX12_wayCost 52 = .ok (.iload 5, 2) := by decide +kernel
theorem dX12_wayCost_54 : decode cX12_wayCost 54 = .ok (.iaload, 1) := by decide +kernel
theorem dX12_wayCost_55 : decode cX12_wayCost 55 = .ok (.invokestatic 227, 3) := by decide +kernel
theorem dX12_wayCost_58 : decode cX12_wayCost 58 = .ok (.ireturn, 1) := by decide +kernel
theorem dX12_wayCostByRounds_0 : decode cX12_wayCostByRounds 0 = .ok (.aload_n 0, 1) := by decide +kernel
theorem dX12_wayCostByRounds_1 : decode cX12_wayCostByRounds 1 = .ok (.getfield 12, 3) := by decide +kernel
theorem dX12_wayCostByRounds_4 : decode cX12_wayCostByRounds 4 = .ok (.getfield 128, 3) := by decide +kernel
theorem dX12_wayCostByRounds_7 : decode cX12_wayCostByRounds 7 = .ok (.getfield 144, 3) := by decide +kernel
theorem dX12_wayCostByRounds_10 : decode cX12_wayCostByRounds 10 = .ok (.aload_n 0, 1) := by decide +kernel
theorem dX12_wayCostByRounds_11 : decode cX12_wayCostByRounds 11 = .ok (.iload_n 1, 1) := by decide +kernel
theorem dX12_wayCostByRounds_12 : decode cX12_wayCostByRounds 12 = .ok (.invokevirtual 147, 3) := by decide +kernel
theorem dX12_wayCostByRounds_15 : decode cX12_wayCostByRounds 15 = .ok (.iaload, 1) := by decide +kernel
theorem dX12_wayCostByRounds_16 : decode cX12_wayCostByRounds 16 = .ok (.istore 4, 2) := by decide +kernel
theorem dX12_wayCostByRounds_18 : decode cX12_wayCostByRounds 18 = .ok (.iload_n 2, 1) := by decide +kernel
theorem dX12_wayCostByRounds_19 : decode cX12_wayCostByRounds 19 = .ok (.iload_n 3, 1) := by decide +kernel
theorem dX12_wayCostByRounds_20 : decode cX12_wayCostByRounds 20 = .ok (.invokestatic 94, 3) := by decide +kernel
theorem dX12_wayCostByRounds_23 : decode cX12_wayCostByRounds 23 = .ok (.istore 5, 2) := by decide +kernel
theorem dX12_wayCostByRounds_25 : decode cX12_wayCostByRounds 25 = .ok (.aload_n 0, 1) := by decide +kernel
theorem dX12_wayCostByRounds_26 : decode cX12_wayCostByRounds 26 = .ok (.getfield 29, 3) := by decide +kernel
theorem dX12_wayCostByRounds_29 : decode cX12_wayCostByRounds 29 = .ok (.aload_n 0, 1) := by decide +kernel
theorem dX12_wayCostByRounds_30 : decode cX12_wayCostByRounds 30 = .ok (.getfield 12, 3) := by decide +kernel
theorem dX12_wayCostByRounds_33 : decode cX12_wayCostByRounds 33 = .ok (.invokevirtual 236, 3) := by decide +kernel
theorem dX12_wayCostByRounds_36 : decode cX12_wayCostByRounds 36 = .ok (.aload_n 0, 1) := by decide +kernel
theorem dX12_wayCostByRounds_37 : decode cX12_wayCostByRounds 37 = .ok (.getfield 29, 3) := by decide +kernel
theorem dX12_wayCostByRounds_40 : decode cX12_wayCostByRounds 40 = .ok (.iload 4, 2) := by decide +kernel
theorem dX12_wayCostByRounds_42 : decode cX12_wayCostByRounds 42 = .ok (.invokevirtual 230, 3) := by decide +kernel
theorem dX12_wayCostByRounds_45 : decode cX12_wayCostByRounds 45 = .ok (.aload_n 0, 1) := by decide +kernel
theorem dX12_wayCostByRounds_46 : decode cX12_wayCostByRounds 46 = .ok (.getfield 29, 3) := by decide +kernel
theorem dX12_wayCostByRounds_49 : decode cX12_wayCostByRounds 49 = .ok (.getfield 233, 3) := by decide +kernel
theorem dX12_wayCostByRounds_52 : decode cX12_wayCostByRounds 52 = .ok (.iload 5, 2) := by decide +kernel
theorem dX12_wayCostByRounds_54 : decode cX12_wayCostByRounds 54 = .ok (.iaload, 1) := by decide +kernel
theorem dX12_wayCostByRounds_55 : decode cX12_wayCostByRounds 55 = .ok (.invokestatic 227, 3) := by decide +kernel
theorem dX12_wayCostByRounds_58 : decode cX12_wayCostByRounds 58 = .ok (.ireturn, 1) := by decide +kernel
theorem dX12_breakingEffort_0 : decode cX12_breakingEffort 0 = .ok (.aload_n 0, 1) := by decide +kernel
theorem dX12_breakingEffort_1 : decode cX12_breakingEffort 1 = .ok (.getfield 12, 3) := by decide +kernel
theorem dX12_breakingEffort_4 : decode cX12_breakingEffort 4 = .ok (.getfield 128, 3) := by decide +kernel
theorem dX12_breakingEffort_7 : decode cX12_breakingEffort 7 = .ok (.getfield 144, 3) := by decide +kernel
theorem dX12_breakingEffort_10 : decode cX12_breakingEffort 10 = .ok (.aload_n 0, 1) := by decide +kernel
theorem dX12_breakingEffort_11 : decode cX12_breakingEffort 11 = .ok (.iload_n 1, 1) := by decide +kernel
theorem dX12_breakingEffort_12 : decode cX12_breakingEffort 12 = .ok (.invokevirtual 147, 3) := by decide +kernel
theorem dX12_breakingEffort_15 : decode cX12_breakingEffort 15 = .ok (.iaload, 1) := by decide +kernel
theorem dX12_breakingEffort_16 : decode cX12_breakingEffort 16 = .ok (.istore 4, 2) := by decide +kernel
theorem dX12_breakingEffort_18 : decode cX12_breakingEffort 18 = .ok (.iload_n 2, 1) := by decide +kernel
theorem dX12_breakingEffort_19 : decode cX12_breakingEffort 19 = .ok (.iload_n 3, 1) := by decide +kernel
theorem dX12_breakingEffort_20 : decode cX12_breakingEffort 20 = .ok (.invokestatic 94, 3) := by decide +kernel
theorem dX12_breakingEffort_23 : decode cX12_breakingEffort 23 = .ok (.istore 5, 2) := by decide +kernel
theorem dX12_breakingEffort_25 : decode cX12_breakingEffort 25 = .ok (.aload_n 0, 1) := by decide +kernel
theorem dX12_breakingEffort_26 : decode cX12_breakingEffort 26 = .ok (.getfield 29, 3) := by decide +kernel
theorem dX12_breakingEffort_29 : decode cX12_breakingEffort 29 = .ok (.aload_n 0, 1) := by decide +kernel
theorem dX12_breakingEffort_30 : decode cX12_breakingEffort 30 = .ok (.getfield 12, 3) := by decide +kernel
theorem dX12_breakingEffort_33 : decode cX12_breakingEffort 33 = .ok (.invokevirtual 242, 3) := by decide +kernel
theorem dX12_breakingEffort_36 : decode cX12_breakingEffort 36 = .ok (.aload_n 0, 1) := by decide +kernel
theorem dX12_breakingEffort_37 : decode cX12_breakingEffort 37 = .ok (.getfield 29, 3) := by decide +kernel
theorem dX12_breakingEffort_40 : decode cX12_breakingEffort 40 = .ok (.iload 4, 2) := by decide +kernel
theorem dX12_breakingEffort_42 : decode cX12_breakingEffort 42 = .ok (.invokevirtual 239, 3) := by decide +kernel
theorem dX12_breakingEffort_45 : decode cX12_breakingEffort 45 = .ok (.aload_n 0, 1) := by decide +kernel
theorem dX12_breakingEffort_46 : decode cX12_breakingEffort 46 = .ok (.getfield 29, 3) := by decide +kernel
theorem dX12_breakingEffort_49 : decode cX12_breakingEffort 49 = .ok (.getfield 224, 3) := by decide +kernel
theorem dX12_breakingEffort_52 : decode cX12_breakingEffort 52 = .ok (.iload 5, 2) := by decide +kernel
theorem dX12_breakingEffort_54 : decode cX12_breakingEffort 54 = .ok (.iaload, 1) := by decide +kernel
theorem dX12_breakingEffort_55 : decode cX12_breakingEffort 55 = .ok (.ireturn, 1) := by decide +kernel
theorem dX12_planWay_0 : decode cX12_planWay 0 = .ok (.aload_n 0, 1) := by decide +kernel
theorem dX12_planWay_1 : decode cX12_planWay 1 = .ok (.getfield 22, 3) := by decide +kernel
theorem dX12_planWay_4 : decode cX12_planWay 4 = .ok (.aload_n 0, 1) := by decide +kernel
theorem dX12_planWay_5 : decode cX12_planWay 5 = .ok (.getfield 12, 3) := by decide +kernel
theorem dX12_planWay_8 : decode cX12_planWay 8 = .ok (.invokevirtual 72, 3) := by decide +kernel
theorem dX12_planWay_11 : decode cX12_planWay 11 = .ok (.aload_n 0, 1) := by decide +kernel
theorem dX12_planWay_12 : decode cX12_planWay 12 = .ok (.aload_n 0, 1) := by decide +kernel
theorem dX12_planWay_13 : decode cX12_planWay 13 = .ok (.getfield 12, 3) := by decide +kernel
theorem dX12_planWay_16 : decode cX12_planWay 16 = .ok (.aload_n 0, 1) := by decide +kernel
theorem dX12_planWay_17 : decode cX12_planWay 17 = .ok (.getfield 29, 3) := by decide +kernel
theorem dX12_planWay_20 : decode cX12_planWay 20 = .ok (.iload_n 1, 1) := by decide +kernel
theorem dX12_planWay_21 : decode cX12_planWay 21 = .ok (.iload_n 2, 1) := by decide +kernel
theorem dX12_planWay_22 : decode cX12_planWay 22 = .ok (.iload_n 3, 1) := by decide +kernel
theorem dX12_planWay_23 : decode cX12_planWay 23 = .ok (.iload 4, 2) := by decide +kernel
theorem dX12_planWay_25 : decode cX12_planWay 25 = .ok (.invokevirtual 245, 3) := by decide +kernel
theorem dX12_planWay_28 : decode cX12_planWay 28 = .ok (.invokevirtual 80, 3) := by decide +kernel
theorem dX12_planWay_31 : decode cX12_planWay 31 = .ok (.ireturn, 1) := by decide +kernel
theorem dX12_addLanding_0 : decode cX12_addLanding 0 = .ok (.aload_n 0, 1) := by decide +kernel
theorem dX12_addLanding_1 : decode cX12_addLanding 1 = .ok (.getfield 22, 3) := by decide +kernel
theorem dX12_addLanding_4 : decode cX12_addLanding 4 = .ok (.aload_n 0, 1) := by decide +kernel
theorem dX12_addLanding_5 : decode cX12_addLanding 5 = .ok (.getfield 12, 3) := by decide +kernel
theorem dX12_addLanding_8 : decode cX12_addLanding 8 = .ok (.invokevirtual 72, 3) := by decide +kernel
theorem dX12_addLanding_11 : decode cX12_addLanding 11 = .ok (.aload_n 0, 1) := by decide +kernel
theorem dX12_addLanding_12 : decode cX12_addLanding 12 = .ok (.aload_n 0, 1) := by decide +kernel
theorem dX12_addLanding_13 : decode cX12_addLanding 13 = .ok (.getfield 12, 3) := by decide +kernel
theorem dX12_addLanding_16 : decode cX12_addLanding 16 = .ok (.getfield 249, 3) := by decide +kernel
theorem dX12_addLanding_19 : decode cX12_addLanding 19 = .ok (.iload_n 1, 1) := by decide +kernel
theorem dX12_addLanding_20 : decode cX12_addLanding 20 = .ok (.iload_n 2, 1) := by decide +kernel
theorem dX12_addLanding_21 : decode cX12_addLanding 21 = .ok (.invokevirtual 253, 3) := by decide +kernel
theorem dX12_addLanding_24 : decode cX12_addLanding 24 = .ok (.invokevirtual 80, 3) := by decide +kernel
theorem dX12_addLanding_27 : decode cX12_addLanding 27 = .ok (.ireturn, 1) := by decide +kernel
theorem dX12_removeLanding_0 : decode cX12_removeLanding 0 = .ok (.aload_n 0, 1) := by decide +kernel
theorem dX12_removeLanding_1 : decode cX12_removeLanding 1 = .ok (.getfield 22, 3) := by decide +kernel
theorem dX12_removeLanding_4 : decode cX12_removeLanding 4 = .ok (.aload_n 0, 1) := by decide +kernel
theorem dX12_removeLanding_5 : decode cX12_removeLanding 5 = .ok (.getfield 12, 3) := by decide +kernel
theorem dX12_removeLanding_8 : decode cX12_removeLanding 8 = .ok (.invokevirtual 72, 3) := by decide +kernel
theorem dX12_removeLanding_11 : decode cX12_removeLanding 11 = .ok (.aload_n 0, 1) := by decide +kernel
theorem dX12_removeLanding_12 : decode cX12_removeLanding 12 = .ok (.aload_n 0, 1) := by decide +kernel
theorem dX12_removeLanding_13 : decode cX12_removeLanding 13 = .ok (.getfield 12, 3) := by decide +kernel
theorem dX12_removeLanding_16 : decode cX12_removeLanding 16 = .ok (.getfield 249, 3) := by decide +kernel
theorem dX12_removeLanding_19 : decode cX12_removeLanding 19 = .ok (.iload_n 1, 1) := by decide +kernel
theorem dX12_removeLanding_20 : decode cX12_removeLanding 20 = .ok (.invokevirtual 258, 3) := by decide +kernel
theorem dX12_removeLanding_23 : decode cX12_removeLanding 23 = .ok (.invokevirtual 80, 3) := by decide +kernel
theorem dX12_removeLanding_26 : decode cX12_removeLanding 26 = .ok (.ireturn, 1) := by decide +kernel
theorem dX12_landingCount_0 : decode cX12_landingCount 0 = .ok (.aload_n 0, 1) := by decide +kernel
theorem dX12_landingCount_1 : decode cX12_landingCount 1 = .ok (.getfield 12, 3) := by decide +kernel
theorem dX12_landingCount_4 : decode cX12_landingCount 4 = .ok (.getfield 249, 3) := by decide +kernel
theorem dX12_landingCount_7 : decode cX12_landingCount 7 = .ok (.getfield 261, 3) := by decide +kernel
theorem dX12_landingCount_10 : decode cX12_landingCount 10 = .ok (.ireturn, 1) := by decide +kernel
theorem dX12_pairingCost_0 : decode cX12_pairingCost 0 = .ok (.aload_n 0, 1) := by decide +kernel
theorem dX12_pairingCost_1 : decode cX12_pairingCost 1 = .ok (.invokevirtual 262, 3) := by decide +kernel
theorem dX12_pairingCost_4 : decode cX12_pairingCost 4 = .ok (.aload_n 0, 1) := by decide +kernel
theorem dX12_pairingCost_5 : decode cX12_pairingCost 5 = .ok (.getfield 36, 3) := by decide +kernel
theorem dX12_pairingCost_8 : decode cX12_pairingCost 8 = .ok (.aload_n 0, 1) := by decide +kernel
theorem dX12_pairingCost_9 : decode cX12_pairingCost 9 = .ok (.getfield 12, 3) := by decide +kernel
theorem dX12_pairingCost_12 : decode cX12_pairingCost 12 = .ok (.getfield 249, 3) := by decide +kernel
theorem dX12_pairingCost_15 : decode cX12_pairingCost 15 = .ok (.invokevirtual 265, 3) := by decide +kernel
theorem dX12_pairingCost_18 : decode cX12_pairingCost 18 = .ok (.ireturn, 1) := by decide +kernel
theorem dX12_pairingCostBySearch_0 : decode cX12_pairingCostBySearch 0 = .ok (.aload_n 0, 1) := by decide +kernel
theorem dX12_pairingCostBySearch_1 : decode cX12_pairingCostBySearch 1 = .ok (.invokevirtual 262, 3) := by decide +kernel
theorem dX12_pairingCostBySearch_4 : decode cX12_pairingCostBySearch 4 = .ok (.aload_n 0, 1) := by decide +kernel
theorem dX12_pairingCostBySearch_5 : decode cX12_pairingCostBySearch 5 = .ok (.getfield 36, 3) := by decide +kernel
theorem dX12_pairingCostBySearch_8 : decode cX12_pairingCostBySearch 8 = .ok (.aload_n 0, 1) := by decide +kernel
theorem dX12_pairingCostBySearch_9 : decode cX12_pairingCostBySearch 9 = .ok (.getfield 12, 3) := by decide +kernel
theorem dX12_pairingCostBySearch_12 : decode cX12_pairingCostBySearch 12 = .ok (.getfield 249, 3) := by decide +kernel
theorem dX12_pairingCostBySearch_15 : decode cX12_pairingCostBySearch 15 = .ok (.invokevirtual 269, 3) := by decide +kernel
theorem dX12_pairingCostBySearch_18 : decode cX12_pairingCostBySearch 18 = .ok (.ireturn, 1) := by decide +kernel
theorem dX12_partnerOf_0 : decode cX12_partnerOf 0 = .ok (.iload_n 1, 1) := by decide +kernel
theorem dX12_partnerOf_1 : decode cX12_partnerOf 1 = .ok (.ifCond .lt 17, 3) := by decide +kernel
theorem dX12_partnerOf_4 : decode cX12_partnerOf 4 = .ok (.iload_n 1, 1) := by decide +kernel
theorem dX12_partnerOf_5 : decode cX12_partnerOf 5 = .ok (.aload_n 0, 1) := by decide +kernel
theorem dX12_partnerOf_6 : decode cX12_partnerOf 6 = .ok (.getfield 12, 3) := by decide +kernel
theorem dX12_partnerOf_9 : decode cX12_partnerOf 9 = .ok (.getfield 249, 3) := by decide +kernel
theorem dX12_partnerOf_12 : decode cX12_partnerOf 12 = .ok (.getfield 261, 3) := by decide +kernel
theorem dX12_partnerOf_15 : decode cX12_partnerOf 15 = .ok (.if_icmp .lt 11, 3) := by decide +kernel
theorem dX12_partnerOf_18 : decode cX12_partnerOf 18 = .ok (.new 138, 3) := by decide +kernel
theorem dX12_partnerOf_21 : decode cX12_partnerOf 21 = .ok (.dup, 1) := by decide +kernel
theorem dX12_partnerOf_22 : decode cX12_partnerOf 22 = .ok (.invokespecial 140, 3) := by decide +kernel
theorem dX12_partnerOf_25 : decode cX12_partnerOf 25 = .ok (.athrow, 1) := by decide +kernel
theorem dX12_partnerOf_26 : decode cX12_partnerOf 26 = .ok (.aload_n 0, 1) := by decide +kernel
theorem dX12_partnerOf_27 : decode cX12_partnerOf 27 = .ok (.invokevirtual 262, 3) := by decide +kernel
theorem dX12_partnerOf_30 : decode cX12_partnerOf 30 = .ok (.aload_n 0, 1) := by decide +kernel
theorem dX12_partnerOf_31 : decode cX12_partnerOf 31 = .ok (.getfield 36, 3) := by decide +kernel
theorem dX12_partnerOf_34 : decode cX12_partnerOf 34 = .ok (.aload_n 0, 1) := by decide +kernel
theorem dX12_partnerOf_35 : decode cX12_partnerOf 35 = .ok (.getfield 12, 3) := by decide +kernel
theorem dX12_partnerOf_38 : decode cX12_partnerOf 38 = .ok (.getfield 249, 3) := by decide +kernel
theorem dX12_partnerOf_41 : decode cX12_partnerOf 41 = .ok (.iload_n 1, 1) := by decide +kernel
theorem dX12_partnerOf_42 : decode cX12_partnerOf 42 = .ok (.invokevirtual 272, 3) := by decide +kernel
theorem dX12_partnerOf_45 : decode cX12_partnerOf 45 = .ok (.ireturn, 1) := by decide +kernel
theorem dX12_fareTotal_0 : decode cX12_fareTotal 0 = .ok (.aload_n 0, 1) := by decide +kernel
theorem dX12_fareTotal_1 : decode cX12_fareTotal 1 = .ok (.getfield 12, 3) := by decide +kernel
theorem dX12_fareTotal_4 : decode cX12_fareTotal 4 = .ok (.getfield 128, 3) := by decide +kernel
theorem dX12_fareTotal_7 : decode cX12_fareTotal 7 = .ok (.getfield 276, 3) := by decide +kernel
theorem dX12_fareTotal_10 : decode cX12_fareTotal 10 = .ok (.ireturn, 1) := by decide +kernel
theorem dX12_fareTotalByBoats_0 : decode cX12_fareTotalByBoats 0 = .ok (.aload_n 0, 1) := by decide +kernel
theorem dX12_fareTotalByBoats_1 : decode cX12_fareTotalByBoats 1 = .ok (.getfield 12, 3) := by decide +kernel
theorem dX12_fareTotalByBoats_4 : decode cX12_fareTotalByBoats 4 = .ok (.getfield 128, 3) := by decide +kernel
theorem dX12_fareTotalByBoats_7 : decode cX12_fareTotalByBoats 7 = .ok (.invokevirtual 279, 3) := by decide +kernel
theorem dX12_fareTotalByBoats_10 : decode cX12_fareTotalByBoats 10 = .ok (.aload_n 0, 1) := by decide +kernel
theorem dX12_fareTotalByBoats_11 : decode cX12_fareTotalByBoats 11 = .ok (.getfield 12, 3) := by decide +kernel
theorem dX12_fareTotalByBoats_14 : decode cX12_fareTotalByBoats 14 = .ok (.getfield 128, 3) := by decide +kernel
theorem dX12_fareTotalByBoats_17 : decode cX12_fareTotalByBoats 17 = .ok (.getfield 282, 3) := by decide +kernel
theorem dX12_fareTotalByBoats_20 : decode cX12_fareTotalByBoats 20 = .ok (.iadd, 1) := by decide +kernel
theorem dX12_fareTotalByBoats_21 : decode cX12_fareTotalByBoats 21 = .ok (.ireturn, 1) := by decide +kernel
theorem dX12_meetingCount_0 : decode cX12_meetingCount 0 = .ok (.aload_n 0, 1) := by decide +kernel
theorem dX12_meetingCount_1 : decode cX12_meetingCount 1 = .ok (.getfield 12, 3) := by decide +kernel
theorem dX12_meetingCount_4 : decode cX12_meetingCount 4 = .ok (.getfield 128, 3) := by decide +kernel
theorem dX12_meetingCount_7 : decode cX12_meetingCount 7 = .ok (.getfield 285, 3) := by decide +kernel
theorem dX12_meetingCount_10 : decode cX12_meetingCount 10 = .ok (.ireturn, 1) := by decide +kernel
theorem dX12_append_0 : decode cX12_append 0 = .ok (.iload_n 1, 1) := by decide +kernel
theorem dX12_append_1 : decode cX12_append 1 = .ok (.bipush 32, 2) := by decide +kernel
theorem dX12_append_3 : decode cX12_append 3 = .ok (.if_icmp .lt 9, 3) := by decide +kernel
theorem dX12_append_6 : decode cX12_append 6 = .ok (.iload_n 1, 1) := by decide +kernel
theorem dX12_append_7 : decode cX12_append 7 = .ok (.bipush 126, 2) := by decide +kernel
theorem dX12_append_9 : decode cX12_append 9 = .ok (.if_icmp .le 11, 3) := by decide +kernel
theorem dX12_append_12 : decode cX12_append 12 = .ok (.new 288, 3) := by decide +kernel
theorem dX12_append_15 : decode cX12_append 15 = .ok (.dup, 1) := by decide +kernel
theorem dX12_append_16 : decode cX12_append 16 = .ok (.invokespecial 290, 3) := by decide +kernel
theorem dX12_append_19 : decode cX12_append 19 = .ok (.athrow, 1) := by decide +kernel
theorem dX12_append_20 : decode cX12_append 20 = .ok (.aload_n 0, 1) := by decide +kernel
theorem dX12_append_21 : decode cX12_append 21 = .ok (.getfield 50, 3) := by decide +kernel
theorem dX12_append_24 : decode cX12_append 24 = .ok (.getfield 291, 3) := by decide +kernel
theorem dX12_append_27 : decode cX12_append 27 = .ok (.bipush 60, 2) := by decide +kernel
theorem dX12_append_29 : decode cX12_append 29 = .ok (.if_icmp .lt 11, 3) := by decide +kernel
theorem dX12_append_32 : decode cX12_append 32 = .ok (.new 294, 3) := by decide +kernel
theorem dX12_append_35 : decode cX12_append 35 = .ok (.dup, 1) := by decide +kernel
theorem dX12_append_36 : decode cX12_append 36 = .ok (.invokespecial 296, 3) := by decide +kernel
theorem dX12_append_39 : decode cX12_append 39 = .ok (.athrow, 1) := by decide +kernel
theorem dX12_append_40 : decode cX12_append 40 = .ok (.aload_n 0, 1) := by decide +kernel
theorem dX12_append_41 : decode cX12_append 41 = .ok (.getfield 50, 3) := by decide +kernel
theorem dX12_append_44 : decode cX12_append 44 = .ok (.iload_n 1, 1) := by decide +kernel
theorem dX12_append_45 : decode cX12_append 45 = .ok (.invokevirtual 297, 3) := by decide +kernel
theorem dX12_append_48 : decode cX12_append 48 = .ok (.ireturn, 1) := by decide +kernel
theorem dX12_run_0 : decode cX12_run 0 = .ok (.aload_n 0, 1) := by decide +kernel
theorem dX12_run_1 : decode cX12_run 1 = .ok (.getfield 43, 3) := by decide +kernel
theorem dX12_run_4 : decode cX12_run 4 = .ok (.aload_n 0, 1) := by decide +kernel
theorem dX12_run_5 : decode cX12_run 5 = .ok (.getfield 50, 3) := by decide +kernel
theorem dX12_run_8 : decode cX12_run 8 = .ok (.invokevirtual 301, 3) := by decide +kernel
theorem dX12_run_11 : decode cX12_run 11 = .ok (.istore_n 1, 1) := by decide +kernel
theorem dX12_run_12 : decode cX12_run 12 = .ok (.iload_n 1, 1) := by decide +kernel
theorem dX12_run_13 : decode cX12_run 13 = .ok (.iconst (-1), 1) := by decide +kernel
theorem dX12_run_14 : decode cX12_run 14 = .ok (.if_icmp .eq 23, 3) := by decide +kernel
theorem dX12_run_17 : decode cX12_run 17 = .ok (.aload_n 0, 1) := by decide +kernel
theorem dX12_run_18 : decode cX12_run 18 = .ok (.getfield 50, 3) := by decide +kernel
theorem dX12_run_21 : decode cX12_run 21 = .ok (.invokevirtual 305, 3) := by decide +kernel
theorem dX12_run_24 : decode cX12_run 24 = .ok (.aload_n 0, 1) := by decide +kernel
theorem dX12_run_25 : decode cX12_run 25 = .ok (.iload_n 1, 1) := by decide +kernel
theorem dX12_run_26 : decode cX12_run 26 = .ok (.putfield 65, 3) := by decide +kernel
theorem dX12_run_29 : decode cX12_run 29 = .ok (.new 288, 3) := by decide +kernel
theorem dX12_run_32 : decode cX12_run 32 = .ok (.dup, 1) := by decide +kernel
theorem dX12_run_33 : decode cX12_run 33 = .ok (.invokespecial 290, 3) := by decide +kernel
theorem dX12_run_36 : decode cX12_run 36 = .ok (.athrow, 1) := by decide +kernel
theorem dX12_run_37 : decode cX12_run 37 = .ok (.aload_n 0, 1) := by decide +kernel
theorem dX12_run_38 : decode cX12_run 38 = .ok (.getfield 22, 3) := by decide +kernel
theorem dX12_run_41 : decode cX12_run 41 = .ok (.aload_n 0, 1) := by decide +kernel
theorem dX12_run_42 : decode cX12_run 42 = .ok (.getfield 12, 3) := by decide +kernel
theorem dX12_run_45 : decode cX12_run 45 = .ok (.invokevirtual 72, 3) := by decide +kernel
theorem dX12_run_48 : decode cX12_run 48 = .ok (.aload_n 0, 1) := by decide +kernel
theorem dX12_run_49 : decode cX12_run 49 = .ok (.invokevirtual 308, 3) := by decide +kernel
theorem dX12_run_52 : decode cX12_run 52 = .ok (.istore_n 2, 1) := by decide +kernel
theorem dX12_run_53 : decode cX12_run 53 = .ok (.aload_n 0, 1) := by decide +kernel
theorem dX12_run_54 : decode cX12_run 54 = .ok (.getfield 50, 3) := by decide +kernel
theorem dX12_run_57 : decode cX12_run 57 = .ok (.invokevirtual 305, 3) := by decide +kernel
theorem dX12_run_60 : decode cX12_run 60 = .ok (.iload_n 2, 1) := by decide +kernel
theorem dX12_run_61 : decode cX12_run 61 = .ok (.iconst (-1), 1) := by decide +kernel
theorem dX12_run_62 : decode cX12_run 62 = .ok (.if_icmp .eq 27, 3) := by decide +kernel
theorem dX12_run_65 : decode cX12_run 65 = .ok (.aload_n 0, 1) := by decide +kernel
theorem dX12_run_66 : decode cX12_run 66 = .ok (.getfield 22, 3) := by decide +kernel
theorem dX12_run_69 : decode cX12_run 69 = .ok (.aload_n 0, 1) := by decide +kernel
theorem dX12_run_70 : decode cX12_run 70 = .ok (.getfield 12, 3) := by decide +kernel
theorem dX12_run_73 : decode cX12_run 73 = .ok (.invokevirtual 311, 3) := by decide +kernel
theorem dX12_run_76 : decode cX12_run 76 = .ok (.aload_n 0, 1) := by decide +kernel
theorem dX12_run_77 : decode cX12_run 77 = .ok (.iload_n 2, 1) := by decide +kernel
theorem dX12_run_78 : decode cX12_run 78 = .ok (.putfield 69, 3) := by decide +kernel
theorem dX12_run_81 : decode cX12_run 81 = .ok (.new 294, 3) := by decide +kernel
theorem dX12_run_84 : decode cX12_run 84 = .ok (.dup, 1) := by decide +kernel
theorem dX12_run_85 : decode cX12_run 85 = .ok (.invokespecial 296, 3) := by decide +kernel
theorem dX12_run_88 : decode cX12_run 88 = .ok (.athrow, 1) := by decide +kernel
theorem dX12_run_89 : decode cX12_run 89 = .ok (.aload_n 0, 1) := by decide +kernel
theorem dX12_run_90 : decode cX12_run 90 = .ok (.getfield 22, 3) := by decide +kernel
theorem dX12_run_93 : decode cX12_run 93 = .ok (.invokevirtual 314, 3) := by decide +kernel
theorem dX12_run_96 : decode cX12_run 96 = .ok (.aload_n 0, 1) := by decide +kernel
theorem dX12_run_97 : decode cX12_run 97 = .ok (.getfield 43, 3) := by decide +kernel
theorem dX12_run_100 : decode cX12_run 100 = .ok (.getfield 317, 3) := by decide +kernel
theorem dX12_run_103 : decode cX12_run 103 = .ok (.ireturn, 1) := by decide +kernel
theorem dX12_errorPosition_0 : decode cX12_errorPosition 0 = .ok (.aload_n 0, 1) := by decide +kernel
theorem dX12_errorPosition_1 : decode cX12_errorPosition 1 = .ok (.getfield 65, 3) := by decide +kernel
theorem dX12_errorPosition_4 : decode cX12_errorPosition 4 = .ok (.iconst (-1), 1) := by decide +kernel
theorem dX12_errorPosition_5 : decode cX12_errorPosition 5 = .ok (.if_icmp .ne 11, 3) := by decide +kernel
theorem dX12_errorPosition_8 : decode cX12_errorPosition 8 = .ok (.new 165, 3) := by decide +kernel
theorem dX12_errorPosition_11 : decode cX12_errorPosition 11 = .ok (.dup, 1) := by decide +kernel
theorem dX12_errorPosition_12 : decode cX12_errorPosition 12 = .ok (.invokespecial 167, 3) := by decide +kernel
theorem dX12_errorPosition_15 : decode cX12_errorPosition 15 = .ok (.athrow, 1) := by decide +kernel
theorem dX12_errorPosition_16 : decode cX12_errorPosition 16 = .ok (.aload_n 0, 1) := by decide +kernel
theorem dX12_errorPosition_17 : decode cX12_errorPosition 17 = .ok (.getfield 65, 3) := by decide +kernel
theorem dX12_errorPosition_20 : decode cX12_errorPosition 20 = .ok (.ireturn, 1) := by decide +kernel
theorem dX12_failedCommand_0 : decode cX12_failedCommand 0 = .ok (.aload_n 0, 1) := by decide +kernel
theorem dX12_failedCommand_1 : decode cX12_failedCommand 1 = .ok (.getfield 69, 3) := by decide +kernel
theorem dX12_failedCommand_4 : decode cX12_failedCommand 4 = .ok (.iconst (-1), 1) := by decide +kernel
theorem dX12_failedCommand_5 : decode cX12_failedCommand 5 = .ok (.if_icmp .ne 11, 3) := by decide +kernel
theorem dX12_failedCommand_8 : decode cX12_failedCommand 8 = .ok (.new 165, 3) := by decide +kernel
theorem dX12_failedCommand_11 : decode cX12_failedCommand 11 = .ok (.dup, 1) := by decide +kernel
theorem dX12_failedCommand_12 : decode cX12_failedCommand 12 = .ok (.invokespecial 167, 3) := by decide +kernel
theorem dX12_failedCommand_15 : decode cX12_failedCommand 15 = .ok (.athrow, 1) := by decide +kernel
theorem dX12_failedCommand_16 : decode cX12_failedCommand 16 = .ok (.aload_n 0, 1) := by decide +kernel
theorem dX12_failedCommand_17 : decode cX12_failedCommand 17 = .ok (.getfield 69, 3) := by decide +kernel
theorem dX12_failedCommand_20 : decode cX12_failedCommand 20 = .ok (.ireturn, 1) := by decide +kernel
theorem dX12_describeRow_0 : decode cX12_describeRow 0 = .ok (.iload_n 1, 1) := by decide +kernel
theorem dX12_describeRow_1 : decode cX12_describeRow 1 = .ok (.ifCond .lt 9, 3) := by decide +kernel
theorem dX12_describeRow_4 : decode cX12_describeRow 4 = .ok (.iload_n 1, 1) := by decide +kernel
theorem dX12_describeRow_5 : decode cX12_describeRow 5 = .ok (.bipush 9, 2) := by decide +kernel
theorem dX12_describeRow_7 : decode cX12_describeRow 7 = .ok (.if_icmp .lt 11, 3) := by decide +kernel
theorem dX12_describeRow_10 : decode cX12_describeRow 10 = .ok (.new 138, 3) := by decide +kernel
theorem dX12_describeRow_13 : decode cX12_describeRow 13 = .ok (.dup, 1) := by decide +kernel
theorem dX12_describeRow_14 : decode cX12_describeRow 14 = .ok (.invokespecial 140, 3) := by decide +kernel
theorem dX12_describeRow_17 : decode cX12_describeRow 17 = .ok (.athrow, 1) := by decide +kernel
theorem dX12_describeRow_18 : decode cX12_describeRow 18 = .ok (.aload_n 0, 1) := by decide +kernel
theorem dX12_describeRow_19 : decode cX12_describeRow 19 = .ok (.getfield 54, 3) := by decide +kernel
theorem dX12_describeRow_22 : decode cX12_describeRow 22 = .ok (.invokevirtual 305, 3) := by decide +kernel
theorem dX12_describeRow_25 : decode cX12_describeRow 25 = .ok (.iconst 0, 1) := by decide +kernel
theorem dX12_describeRow_26 : decode cX12_describeRow 26 = .ok (.istore_n 2, 1) := by decide +kernel
theorem dX12_describeRow_27 : decode cX12_describeRow 27 = .ok (.iload_n 2, 1) := by decide +kernel
theorem dX12_describeRow_28 : decode cX12_describeRow 28 = .ok (.bipush 9, 2) := by decide +kernel
theorem dX12_describeRow_30 : decode cX12_describeRow 30 = .ok (.if_icmp .ge 30, 3) := by decide +kernel
theorem dX12_describeRow_33 : decode cX12_describeRow 33 = .ok (.aload_n 0, 1) := by decide +kernel
theorem dX12_describeRow_34 : decode cX12_describeRow 34 = .ok (.getfield 54, 3) := by decide +kernel
theorem dX12_describeRow_37 : decode cX12_describeRow 37 = .ok (.aload_n 0, 1) := by decide +kernel
theorem dX12_describeRow_38 : decode cX12_describeRow 38 = .ok (.getfield 12, 3) := by decide +kernel
theorem dX12_describeRow_41 : decode cX12_describeRow 41 = .ok (.iload_n 1, 1) := by decide +kernel
theorem dX12_describeRow_42 : decode cX12_describeRow 42 = .ok (.bipush 9, 2) := by decide +kernel
theorem dX12_describeRow_44 : decode cX12_describeRow 44 = .ok (.imul, 1) := by decide +kernel
theorem dX12_describeRow_45 : decode cX12_describeRow 45 = .ok (.iload_n 2, 1) := by decide +kernel
theorem dX12_describeRow_46 : decode cX12_describeRow 46 = .ok (.iadd, 1) := by decide +kernel
theorem dX12_describeRow_47 : decode cX12_describeRow 47 = .ok (.invokevirtual 318, 3) := by decide +kernel
theorem dX12_describeRow_50 : decode cX12_describeRow 50 = .ok (.invokevirtual 297, 3) := by decide +kernel
theorem dX12_describeRow_53 : decode cX12_describeRow 53 = .ok (.pop, 1) := by decide +kernel
theorem dX12_describeRow_54 : decode cX12_describeRow 54 = .ok (.iinc 2 1, 3) := by decide +kernel
theorem dX12_describeRow_57 : decode cX12_describeRow 57 = .ok (.goto (-30), 3) := by decide +kernel
theorem dX12_describeRow_60 : decode cX12_describeRow 60 = .ok (.aload_n 0, 1) := by decide +kernel
theorem dX12_describeRow_61 : decode cX12_describeRow 61 = .ok (.getfield 54, 3) := by decide +kernel
theorem dX12_describeRow_64 : decode cX12_describeRow 64 = .ok (.getfield 291, 3) := by decide +kernel
theorem dX12_describeRow_67 : decode cX12_describeRow 67 = .ok (.ireturn, 1) := by decide +kernel
theorem dX12_describePlan_0 : decode cX12_describePlan 0 = .ok (.iload_n 1, 1) := by decide +kernel
theorem dX12_describePlan_1 : decode cX12_describePlan 1 = .ok (.invokestatic 190, 3) := by decide +kernel
theorem dX12_describePlan_4 : decode cX12_describePlan 4 = .ok (.istore_n 2, 1) := by decide +kernel
theorem dX12_describePlan_5 : decode cX12_describePlan 5 = .ok (.aload_n 0, 1) := by decide +kernel
theorem dX12_describePlan_6 : decode cX12_describePlan 6 = .ok (.getfield 54, 3) := by decide +kernel
theorem dX12_describePlan_9 : decode cX12_describePlan 9 = .ok (.invokevirtual 305, 3) := by decide +kernel
theorem dX12_describePlan_12 : decode cX12_describePlan 12 = .ok (.aload_n 0, 1) := by decide +kernel
theorem dX12_describePlan_13 : decode cX12_describePlan 13 = .ok (.getfield 12, 3) := by decide +kernel
theorem dX12_describePlan_16 : decode cX12_describePlan 16 = .ok (.getfield 168, 3) := by decide +kernel
theorem dX12_describePlan_19 : decode cX12_describePlan 19 = .ok (.aload_n 0, 1) := by decide +kernel
theorem dX12_describePlan_20 : decode cX12_describePlan 20 = .ok (.getfield 54, 3) := by decide +kernel
theorem dX12_describePlan_23 : decode cX12_describePlan 23 = .ok (.iload_n 2, 1) := by decide +kernel
theorem dX12_describePlan_24 : decode cX12_describePlan 24 = .ok (.invokevirtual 321, 3) := by decide +kernel
theorem dX12_describePlan_27 : decode cX12_describePlan 27 = .ok (.aload_n 0, 1) := by decide +kernel
theorem dX12_describePlan_28 : decode cX12_describePlan 28 = .ok (.getfield 54, 3) := by decide +kernel
theorem dX12_describePlan_31 : decode cX12_describePlan 31 = .ok (.getfield 291, 3) := by decide +kernel
theorem dX12_describePlan_34 : decode cX12_describePlan 34 = .ok (.ireturn, 1) := by decide +kernel
theorem dX12_lineAt_0 : decode cX12_lineAt 0 = .ok (.iload_n 1, 1) := by decide +kernel
theorem dX12_lineAt_1 : decode cX12_lineAt 1 = .ok (.ifCond .lt 14, 3) := by decide +kernel
theorem dX12_lineAt_4 : decode cX12_lineAt 4 = .ok (.iload_n 1, 1) := by decide +kernel
theorem dX12_lineAt_5 : decode cX12_lineAt 5 = .ok (.aload_n 0, 1) := by decide +kernel
theorem dX12_lineAt_6 : decode cX12_lineAt 6 = .ok (.getfield 54, 3) := by decide +kernel
theorem dX12_lineAt_9 : decode cX12_lineAt 9 = .ok (.getfield 291, 3) := by decide +kernel
theorem dX12_lineAt_12 : decode cX12_lineAt 12 = .ok (.if_icmp .lt 11, 3) := by decide +kernel
theorem dX12_lineAt_15 : decode cX12_lineAt 15 = .ok (.new 138, 3) := by decide +kernel
theorem dX12_lineAt_18 : decode cX12_lineAt 18 = .ok (.dup, 1) := by decide +kernel
theorem dX12_lineAt_19 : decode cX12_lineAt 19 = .ok (.invokespecial 140, 3) := by decide +kernel
theorem dX12_lineAt_22 : decode cX12_lineAt 22 = .ok (.athrow, 1) := by decide +kernel
theorem dX12_lineAt_23 : decode cX12_lineAt 23 = .ok (.aload_n 0, 1) := by decide +kernel
theorem dX12_lineAt_24 : decode cX12_lineAt 24 = .ok (.getfield 54, 3) := by decide +kernel
theorem dX12_lineAt_27 : decode cX12_lineAt 27 = .ok (.iload_n 1, 1) := by decide +kernel
theorem dX12_lineAt_28 : decode cX12_lineAt 28 = .ok (.invokevirtual 325, 3) := by decide +kernel
theorem dX12_lineAt_31 : decode cX12_lineAt 31 = .ok (.ireturn, 1) := by decide +kernel
theorem dX12_meanFares_0 : decode cX12_meanFares 0 = .ok (.aload_n 0, 1) := by decide +kernel
theorem dX12_meanFares_1 : decode cX12_meanFares 1 = .ok (.getfield 12, 3) := by decide +kernel
theorem dX12_meanFares_4 : decode cX12_meanFares 4 = .ok (.getfield 128, 3) := by decide +kernel
theorem dX12_meanFares_7 : decode cX12_meanFares 7 = .ok (.getfield 137, 3) := by decide +kernel
theorem dX12_meanFares_10 : decode cX12_meanFares 10 = .ok (.ifCond .ne 11, 3) := by decide +kernel
theorem dX12_meanFares_13 : decode cX12_meanFares 13 = .ok (.new 328, 3) := by decide +kernel
theorem dX12_meanFares_16 : decode cX12_meanFares 16 = .ok (.dup, 1) := by decide +kernel
theorem dX12_meanFares_17 : decode cX12_meanFares 17 = .ok (.invokespecial 330, 3) := by decide +kernel
theorem dX12_meanFares_20 : decode cX12_meanFares 20 = .ok (.athrow, 1) := by decide +kernel
theorem dX12_meanFares_21 : decode cX12_meanFares 21 = .ok (.aload_n 0, 1) := by decide +kernel
theorem dX12_meanFares_22 : decode cX12_meanFares 22 = .ok (.getfield 12, 3) := by decide +kernel
theorem dX12_meanFares_25 : decode cX12_meanFares 25 = .ok (.getfield 128, 3) := by decide +kernel
theorem dX12_meanFares_28 : decode cX12_meanFares 28 = .ok (.invokevirtual 279, 3) := by decide +kernel
theorem dX12_meanFares_31 : decode cX12_meanFares 31 = .ok (.i2d, 1) := by decide +kernel
theorem dX12_meanFares_32 : decode cX12_meanFares 32 = .ok (.aload_n 0, 1) := by decide +kernel
theorem dX12_meanFares_33 : decode cX12_meanFares 33 = .ok (.getfield 12, 3) := by decide +kernel
theorem dX12_meanFares_36 : decode cX12_meanFares 36 = .ok (.getfield 128, 3) := by decide +kernel
theorem dX12_meanFares_39 : decode cX12_meanFares 39 = .ok (.getfield 137, 3) := by decide +kernel
theorem dX12_meanFares_42 : decode cX12_meanFares 42 = .ok (.i2d, 1) := by decide +kernel
theorem dX12_meanFares_43 : decode cX12_meanFares 43 = .ok (.ddiv, 1) := by decide +kernel
theorem dX12_meanFares_44 : decode cX12_meanFares 44 = .ok (.dreturn, 1) := by decide +kernel
theorem dX12_passableShare_0 : decode cX12_passableShare 0 = .ok (.aload_n 0, 1) := by decide +kernel
theorem dX12_passableShare_1 : decode cX12_passableShare 1 = .ok (.getfield 12, 3) := by decide +kernel
theorem dX12_passableShare_4 : decode cX12_passableShare 4 = .ok (.getfield 90, 3) := by decide +kernel
theorem dX12_passableShare_7 : decode cX12_passableShare 7 = .ok (.invokevirtual 331, 3) := by decide +kernel
theorem dX12_passableShare_10 : decode cX12_passableShare 10 = .ok (.i2f, 1) := by decide +kernel
theorem dX12_passableShare_11 : decode cX12_passableShare 11 = .ok (.ldc_w 334, 3) := by decide +kernel
theorem dX12_passableShare_14 : decode cX12_passableShare 14 = .ok (.fdiv, 1) := by decide +kernel
theorem dX12_passableShare_15 : decode cX12_passableShare 15 = .ok (.freturn, 1) := by decide +kernel
theorem dX12_isConsistent_0 : decode cX12_isConsistent 0 = .ok (.aload_n 0, 1) := by decide +kernel
theorem dX12_isConsistent_1 : decode cX12_isConsistent 1 = .ok (.invokevirtual 335, 3) := by decide +kernel
theorem dX12_isConsistent_4 : decode cX12_isConsistent 4 = .ok (.ifCond .eq 55, 3) := by decide +kernel
theorem dX12_isConsistent_7 : decode cX12_isConsistent 7 = .ok (.aload_n 0, 1) := by decide +kernel
theorem dX12_isConsistent_8 : decode cX12_isConsistent 8 = .ok (.getfield 12, 3) := by decide +kernel
theorem dX12_isConsistent_11 : decode cX12_isConsistent 11 = .ok (.getfield 90, 3) := by decide +kernel
theorem dX12_isConsistent_14 : decode cX12_isConsistent 14 = .ok (.invokevirtual 112, 3) := by decide +kernel
theorem dX12_isConsistent_17 : decode cX12_isConsistent 17 = .ok (.aload_n 0, 1) := by decide +kernel
theorem dX12_isConsistent_18 : decode cX12_isConsistent 18 = .ok (.getfield 12, 3) := by decide +kernel
theorem dX12_isConsistent_21 : decode cX12_isConsistent 21 = .ok (.getfield 90, 3) := by decide +kernel
theorem dX12_isConsistent_24 : decode cX12_isConsistent 24 = .ok (.invokevirtual 116, 3) := by decide +kernel
theorem dX12_isConsistent_27 : decode cX12_isConsistent 27 = .ok (.if_icmp .ne 32, 3) := by decide +kernel
theorem dX12_isConsistent_30 : decode cX12_isConsistent 30 = .ok (.aload_n 0, 1) := by decide +kernel
theorem dX12_isConsistent_31 : decode cX12_isConsistent 31 = .ok (.invokevirtual 339, 3) := by decide +kernel
theorem dX12_isConsistent_34 : decode cX12_isConsistent 34 = .ok (.ifCond .eq 25, 3) := by decide +kernel
theorem dX12_isConsistent_37 : decode cX12_isConsistent 37 = .ok (.aload_n 0, 1) := by decide +kernel
theorem dX12_isConsistent_38 : decode cX12_isConsistent 38 = .ok (.invokevirtual 342, 3) := by decide +kernel
theorem dX12_isConsistent_41 : decode cX12_isConsistent 41 = .ok (.ifCond .eq 18, 3) := by decide +kernel
theorem dX12_isConsistent_44 : decode cX12_isConsistent 44 = .ok (.aload_n 0, 1) := by decide +kernel
theorem dX12_isConsistent_45 : decode cX12_isConsistent 45 = .ok (.invokevirtual 345, 3) := by decide +kernel
theorem dX12_isConsistent_48 : decode cX12_isConsistent 48 = .ok (.aload_n 0, 1) := by decide +kernel
theorem dX12_isConsistent_49 : decode cX12_isConsistent 49 = .ok (.invokevirtual 348, 3) := by decide +kernel
theorem dX12_isConsistent_52 : decode cX12_isConsistent 52 = .ok (.if_icmp .ne 7, 3) := by decide +kernel
theorem dX12_isConsistent_55 : decode cX12_isConsistent 55 = .ok (.iconst 1, 1) := by decide +kernel
theorem dX12_isConsistent_56 : decode cX12_isConsistent 56 = .ok (.goto 4, 3) := by decide +kernel
theorem dX12_isConsistent_59 : decode cX12_isConsistent 59 = .ok (.iconst 0, 1) := by decide +kernel
theorem dX12_isConsistent_60 : decode cX12_isConsistent 60 = .ok (.ireturn, 1) := by decide +kernel
theorem dX12_undo_0 : decode cX12_undo 0 = .ok (.aload_n 0, 1) := by decide +kernel
theorem dX12_undo_1 : decode cX12_undo 1 = .ok (.getfield 22, 3) := by decide +kernel
theorem dX12_undo_4 : decode cX12_undo 4 = .ok (.getfield 351, 3) := by decide +kernel
theorem dX12_undo_7 : decode cX12_undo 7 = .ok (.ifCond .ne 11, 3) := by decide +kernel
theorem dX12_undo_10 : decode cX12_undo 10 = .ok (.new 294, 3) := by decide +kernel
theorem dX12_undo_13 : decode cX12_undo 13 = .ok (.dup, 1) := by decide +kernel
theorem dX12_undo_14 : decode cX12_undo 14 = .ok (.invokespecial 296, 3) := by decide +kernel
theorem dX12_undo_17 : decode cX12_undo 17 = .ok (.athrow, 1) := by decide +kernel
theorem dX12_undo_18 : decode cX12_undo 18 = .ok (.aload_n 0, 1) := by decide +kernel
theorem dX12_undo_19 : decode cX12_undo 19 = .ok (.getfield 22, 3) := by decide +kernel
theorem dX12_undo_22 : decode cX12_undo 22 = .ok (.aload_n 0, 1) := by decide +kernel
theorem dX12_undo_23 : decode cX12_undo 23 = .ok (.getfield 12, 3) := by decide +kernel
theorem dX12_undo_26 : decode cX12_undo 26 = .ok (.invokevirtual 352, 3) := by decide +kernel
theorem dX12_undo_29 : decode cX12_undo 29 = .ok (.aload_n 0, 1) := by decide +kernel
theorem dX12_undo_30 : decode cX12_undo 30 = .ok (.getfield 22, 3) := by decide +kernel
theorem dX12_undo_33 : decode cX12_undo 33 = .ok (.getfield 351, 3) := by decide +kernel
theorem dX12_undo_36 : decode cX12_undo 36 = .ok (.ireturn, 1) := by decide +kernel
theorem dX12_save_0 : decode cX12_save 0 = .ok (.aload_n 0, 1) := by decide +kernel
theorem dX12_save_1 : decode cX12_save 1 = .ok (.getfield 16, 3) := by decide +kernel
theorem dX12_save_4 : decode cX12_save 4 = .ok (.aload_n 0, 1) := by decide +kernel
theorem dX12_save_5 : decode cX12_save 5 = .ok (.getfield 12, 3) := by decide +kernel
theorem dX12_save_8 : decode cX12_save 8 = .ok (.invokevirtual 355, 3) := by decide +kernel
theorem dX12_save_11 : decode cX12_save 11 = .ok (.aload_n 0, 1) := by decide +kernel
theorem dX12_save_12 : decode cX12_save 12 = .ok (.iconst 1, 1) := by decide +kernel
theorem dX12_save_13 : decode cX12_save 13 = .ok (.putfield 61, 3) := by decide +kernel
theorem dX12_save_16 : decode cX12_save 16 = .ok (.aload_n 0, 1) := by decide +kernel
theorem dX12_save_17 : decode cX12_save 17 = .ok (.getfield 12, 3) := by decide +kernel
theorem dX12_save_20 : decode cX12_save 20 = .ok (.getfield 128, 3) := by decide +kernel
theorem dX12_save_23 : decode cX12_save 23 = .ok (.getfield 137, 3) := by decide +kernel
theorem dX12_save_26 : decode cX12_save 26 = .ok (.ireturn, 1) := by decide +kernel
theorem dX12_restore_0 : decode cX12_restore 0 = .ok (.aload_n 0, 1) := by decide +kernel
theorem dX12_restore_1 : decode cX12_restore 1 = .ok (.getfield 61, 3) := by decide +kernel
theorem dX12_restore_4 : decode cX12_restore 4 = .ok (.ifCond .ne 11, 3) := by decide +kernel
theorem dX12_restore_7 : decode cX12_restore 7 = .ok (.new 294, 3) := by decide +kernel
theorem dX12_restore_10 : decode cX12_restore 10 = .ok (.dup, 1) := by decide +kernel
theorem dX12_restore_11 : decode cX12_restore 11 = .ok (.invokespecial 296, 3) := by decide +kernel
theorem dX12_restore_14 : decode cX12_restore 14 = .ok (.athrow, 1) := by decide +kernel
theorem dX12_restore_15 : decode cX12_restore 15 = .ok (.aload_n 0, 1) := by decide +kernel
theorem dX12_restore_16 : decode cX12_restore 16 = .ok (.getfield 12, 3) := by decide +kernel
theorem dX12_restore_19 : decode cX12_restore 19 = .ok (.aload_n 0, 1) := by decide +kernel
theorem dX12_restore_20 : decode cX12_restore 20 = .ok (.getfield 16, 3) := by decide +kernel
theorem dX12_restore_23 : decode cX12_restore 23 = .ok (.invokevirtual 355, 3) := by decide +kernel
theorem dX12_restore_26 : decode cX12_restore 26 = .ok (.aload_n 0, 1) := by decide +kernel
theorem dX12_restore_27 : decode cX12_restore 27 = .ok (.getfield 22, 3) := by decide +kernel
theorem dX12_restore_30 : decode cX12_restore 30 = .ok (.invokevirtual 358, 3) := by decide +kernel
theorem dX12_restore_33 : decode cX12_restore 33 = .ok (.aload_n 0, 1) := by decide +kernel
theorem dX12_restore_34 : decode cX12_restore 34 = .ok (.getfield 12, 3) := by decide +kernel
theorem dX12_restore_37 : decode cX12_restore 37 = .ok (.getfield 128, 3) := by decide +kernel
theorem dX12_restore_40 : decode cX12_restore 40 = .ok (.getfield 137, 3) := by decide +kernel
theorem dX12_restore_43 : decode cX12_restore 43 = .ok (.ireturn, 1) := by decide +kernel
theorem dX12_settled_0 : decode cX12_settled 0 = .ok (.iload_n 1, 1) := by decide +kernel
theorem dX12_settled_1 : decode cX12_settled 1 = .ok (.tableswitch 75 (-5) (-1) #[67, 59, 51, 43, 35], 35) := by decide +kernel
theorem dX12_settled_36 : decode cX12_settled 36 = .ok (.new 138, 3) := by decide +kernel
theorem dX12_settled_39 : decode cX12_settled 39 = .ok (.dup, 1) := by decide +kernel
theorem dX12_settled_40 : decode cX12_settled 40 = .ok (.invokespecial 140, 3) := by decide +kernel
theorem dX12_settled_43 : decode cX12_settled 43 = .ok (.athrow, 1) := by decide +kernel
theorem dX12_settled_44 : decode cX12_settled 44 = .ok (.new 165, 3) := by decide +kernel
theorem dX12_settled_47 : decode cX12_settled 47 = .ok (.dup, 1) := by decide +kernel
theorem dX12_settled_48 : decode cX12_settled 48 = .ok (.invokespecial 167, 3) := by decide +kernel
theorem dX12_settled_51 : decode cX12_settled 51 = .ok (.athrow, 1) := by decide +kernel
theorem dX12_settled_52 : decode cX12_settled 52 = .ok (.new 294, 3) := by decide +kernel
theorem dX12_settled_55 : decode cX12_settled 55 = .ok (.dup, 1) := by decide +kernel
theorem dX12_settled_56 : decode cX12_settled 56 = .ok (.invokespecial 296, 3) := by decide +kernel
theorem dX12_settled_59 : decode cX12_settled 59 = .ok (.athrow, 1) := by decide +kernel
theorem dX12_settled_60 : decode cX12_settled 60 = .ok (.new 288, 3) := by decide +kernel
theorem dX12_settled_63 : decode cX12_settled 63 = .ok (.dup, 1) := by decide +kernel
theorem dX12_settled_64 : decode cX12_settled 64 = .ok (.invokespecial 290, 3) := by decide +kernel
theorem dX12_settled_67 : decode cX12_settled 67 = .ok (.athrow, 1) := by decide +kernel
theorem dX12_settled_68 : decode cX12_settled 68 = .ok (.new 361, 3) := by decide +kernel
theorem dX12_settled_71 : decode cX12_settled 71 = .ok (.dup, 1) := by decide +kernel
theorem dX12_settled_72 : decode cX12_settled 72 = .ok (.invokespecial 363, 3) := by decide +kernel
theorem dX12_settled_75 : decode cX12_settled 75 = .ok (.athrow, 1) := by decide +kernel
theorem dX12_settled_76 : decode cX12_settled 76 = .ok (.aload_n 0, 1) := by decide +kernel
theorem dX12_settled_77 : decode cX12_settled 77 = .ok (.getfield 22, 3) := by decide +kernel
theorem dX12_settled_80 : decode cX12_settled 80 = .ok (.invokevirtual 314, 3) := by decide +kernel
theorem dX12_settled_83 : decode cX12_settled 83 = .ok (.iload_n 1, 1) := by decide +kernel
theorem dX12_settled_84 : decode cX12_settled 84 = .ok (.ireturn, 1) := by decide +kernel
theorem dX12_existingCell_0 : decode cX12_existingCell 0 = .ok (.iload_n 0, 1) := by decide +kernel
theorem dX12_existingCell_1 : decode cX12_existingCell 1 = .ok (.iload_n 1, 1) := by decide +kernel
theorem dX12_existingCell_2 : decode cX12_existingCell 2 = .ok (.invokestatic 364, 3) := by decide +kernel
theorem dX12_existingCell_5 : decode cX12_existingCell 5 = .ok (.istore_n 2, 1) := by decide +kernel
theorem dX12_existingCell_6 : decode cX12_existingCell 6 = .ok (.iload_n 2, 1) := by decide +kernel
theorem dX12_existingCell_7 : decode cX12_existingCell 7 = .ok (.iconst (-1), 1) := by decide +kernel
theorem dX12_existingCell_8 : decode cX12_existingCell 8 = .ok (.if_icmp .ne 11, 3) := by decide +kernel
theorem dX12_existingCell_11 : decode cX12_existingCell 11 = .ok (.new 138, 3) := by decide +kernel
theorem dX12_existingCell_14 : decode cX12_existingCell 14 = .ok (.dup, 1) := by decide +kernel
theorem dX12_existingCell_15 : decode cX12_existingCell 15 = .ok (.invokespecial 140, 3) := by decide +kernel
theorem dX12_existingCell_18 : decode cX12_existingCell 18 = .ok (.athrow, 1) := by decide +kernel
theorem dX12_existingCell_19 : decode cX12_existingCell 19 = .ok (.iload_n 2, 1) := by decide +kernel
theorem dX12_existingCell_20 : decode cX12_existingCell 20 = .ok (.ireturn, 1) := by decide +kernel
theorem dX12_existingPlan_0 : decode cX12_existingPlan 0 = .ok (.iload_n 0, 1) := by decide +kernel
theorem dX12_existingPlan_1 : decode cX12_existingPlan 1 = .ok (.invokestatic 367, 3) := by decide +kernel
theorem dX12_existingPlan_4 : decode cX12_existingPlan 4 = .ok (.ifCond .ne 11, 3) := by decide +kernel
theorem dX12_existingPlan_7 : decode cX12_existingPlan 7 = .ok (.new 138, 3) := by decide +kernel
theorem dX12_existingPlan_10 : decode cX12_existingPlan 10 = .ok (.dup, 1) := by decide +kernel
theorem dX12_existingPlan_11 : decode cX12_existingPlan 11 = .ok (.invokespecial 140, 3) := by decide +kernel
theorem dX12_existingPlan_14 : decode cX12_existingPlan 14 = .ok (.athrow, 1) := by decide +kernel
theorem dX12_existingPlan_15 : decode cX12_existingPlan 15 = .ok (.iload_n 0, 1) := by decide +kernel
theorem dX12_existingPlan_16 : decode cX12_existingPlan 16 = .ok (.ireturn, 1) := by decide +kernel
theorem dX12_existingPlace_0 : decode cX12_existingPlace 0 = .ok (.aload_n 0, 1) := by decide +kernel
theorem dX12_existingPlace_1 : decode cX12_existingPlace 1 = .ok (.getfield 12, 3) := by decide +kernel
theorem dX12_existingPlace_4 : decode cX12_existingPlace 4 = .ok (.getfield 128, 3) := by decide +kernel
theorem dX12_existingPlace_7 : decode cX12_existingPlace 7 = .ok (.iload_n 1, 1) := by decide +kernel
theorem dX12_existingPlace_8 : decode cX12_existingPlace 8 = .ok (.invokevirtual 370, 3) := by decide +kernel
theorem dX12_existingPlace_11 : decode cX12_existingPlace 11 = .ok (.istore_n 2, 1) := by decide +kernel
theorem dX12_existingPlace_12 : decode cX12_existingPlace 12 = .ok (.iload_n 2, 1) := by decide +kernel
theorem dX12_existingPlace_13 : decode cX12_existingPlace 13 = .ok (.iconst (-1), 1) := by decide +kernel
theorem dX12_existingPlace_14 : decode cX12_existingPlace 14 = .ok (.if_icmp .ne 11, 3) := by decide +kernel
theorem dX12_existingPlace_17 : decode cX12_existingPlace 17 = .ok (.new 165, 3) := by decide +kernel
theorem dX12_existingPlace_20 : decode cX12_existingPlace 20 = .ok (.dup, 1) := by decide +kernel
theorem dX12_existingPlace_21 : decode cX12_existingPlace 21 = .ok (.invokespecial 167, 3) := by decide +kernel
theorem dX12_existingPlace_24 : decode cX12_existingPlace 24 = .ok (.athrow, 1) := by decide +kernel
theorem dX12_existingPlace_25 : decode cX12_existingPlace 25 = .ok (.iload_n 2, 1) := by decide +kernel
theorem dX12_existingPlace_26 : decode cX12_existingPlace 26 = .ok (.ireturn, 1) := by decide +kernel
theorem dX12_reached_0 : decode cX12_reached 0 = .ok (.iload_n 0, 1) := by decide +kernel
theorem dX12_reached_1 : decode cX12_reached 1 = .ok (.ldc_w 373, 3) := by decide +kernel
theorem dX12_reached_4 : decode cX12_reached 4 = .ok (.if_icmp .lt 11, 3) := by decide +kernel
theorem dX12_reached_7 : decode cX12_reached 7 = .ok (.new 165, 3) := by decide +kernel
theorem dX12_reached_10 : decode cX12_reached 10 = .ok (.dup, 1) := by decide +kernel
theorem dX12_reached_11 : decode cX12_reached 11 = .ok (.invokespecial 167, 3) := by decide +kernel
theorem dX12_reached_14 : decode cX12_reached 14 = .ok (.athrow, 1) := by decide +kernel
theorem dX12_reached_15 : decode cX12_reached 15 = .ok (.iload_n 0, 1) := by decide +kernel
theorem dX12_reached_16 : decode cX12_reached 16 = .ok (.ireturn, 1) := by decide +kernel
theorem dX12_requireEvenLandings_0 : decode cX12_requireEvenLandings 0 = .ok (.aload_n 0, 1) := by decide +kernel
theorem dX12_requireEvenLandings_1 : decode cX12_requireEvenLandings 1 = .ok (.getfield 12, 3) := by decide +kernel
theorem dX12_requireEvenLandings_4 : decode cX12_requireEvenLandings 4 = .ok (.getfield 249, 3) := by decide +kernel
theorem dX12_requireEvenLandings_7 : decode cX12_requireEvenLandings 7 = .ok (.getfield 261, 3) := by decide +kernel
theorem dX12_requireEvenLandings_10 : decode cX12_requireEvenLandings 10 = .ok (.iconst 2, 1) := by decide +kernel
theorem dX12_requireEvenLandings_11 : decode cX12_requireEvenLandings 11 = .ok (.irem, 1) := by decide +kernel
theorem dX12_requireEvenLandings_12 : decode cX12_requireEvenLandings 12 = .ok (.ifCond .eq 11, 3) := by decide +kernel
theorem dX12_requireEvenLandings_15 : decode cX12_requireEvenLandings 15 = .ok (.new 294, 3) := by decide +kernel
theorem dX12_requireEvenLandings_18 : decode cX12_requireEvenLandings 18 = .ok (.dup, 1) := by decide +kernel
theorem dX12_requireEvenLandings_19 : decode cX12_requireEvenLandings 19 = .ok (.invokespecial 296, 3) := by decide +kernel
theorem dX12_requireEvenLandings_22 : decode cX12_requireEvenLandings 22 = .ok (.athrow, 1) := by decide +kernel
theorem dX12_requireEvenLandings_23 : decode cX12_requireEvenLandings 23 = .ok (.return_, 1) := by decide +kernel
theorem dX12_carryOutAll_0 : decode cX12_carryOutAll 0 = .ok (.iconst 0, 1) := by decide +kernel
theorem dX12_carryOutAll_1 : decode cX12_carryOutAll 1 = .ok (.istore_n 1, 1) := by decide +kernel
theorem dX12_carryOutAll_2 : decode cX12_carryOutAll 2 = .ok (.iload_n 1, 1) := by decide +kernel
theorem dX12_carryOutAll_3 : decode cX12_carryOutAll 3 = .ok (.aload_n 0, 1) := by decide +kernel
theorem dX12_carryOutAll_4 : decode cX12_carryOutAll 4 = .ok (.getfield 43, 3) := by decide +kernel
theorem dX12_carryOutAll_7 : decode cX12_carryOutAll 7 = .ok (.getfield 317, 3) := by decide +kernel
theorem dX12_carryOutAll_10 : decode cX12_carryOutAll 10 = .ok (.if_icmp .ge 40, 3) := by decide +kernel
theorem dX12_carryOutAll_13 : decode cX12_carryOutAll 13 = .ok (.aload_n 0, 1) := by decide +kernel
theorem dX12_carryOutAll_14 : decode cX12_carryOutAll 14 = .ok (.getstatic 374, 3) := by decide +kernel
theorem dX12_carryOutAll_17 : decode cX12_carryOutAll 17 = .ok (.aload_n 0, 1) := by decide +kernel
theorem dX12_carryOutAll_18 : decode cX12_carryOutAll 18 = .ok (.getfield 43, 3) := by decide +kernel
theorem dX12_carryOutAll_21 : decode cX12_carryOutAll 21 = .ok (.getfield 378, 3) := by decide +kernel
theorem dX12_carryOutAll_24 : decode cX12_carryOutAll 24 = .ok (.iload_n 1, 1) := by decide +kernel
theorem dX12_carryOutAll_25 : decode cX12_carryOutAll 25 = .ok (.iaload, 1) := by decide +kernel
theorem dX12_carryOutAll_26 : decode cX12_carryOutAll 26 = .ok (.aaload, 1) := by decide +kernel
theorem dX12_carryOutAll_27 : decode cX12_carryOutAll 27 = .ok (.aload_n 0, 1) := by decide +kernel
theorem dX12_carryOutAll_28 : decode cX12_carryOutAll 28 = .ok (.getfield 43, 3) := by decide +kernel
theorem dX12_carryOutAll_31 : decode cX12_carryOutAll 31 = .ok (.getfield 381, 3) := by decide +kernel
theorem dX12_carryOutAll_34 : decode cX12_carryOutAll 34 = .ok (.iload_n 1, 1) := by decide +kernel
theorem dX12_carryOutAll_35 : decode cX12_carryOutAll 35 = .ok (.iaload, 1) := by decide +kernel
theorem dX12_carryOutAll_36 : decode cX12_carryOutAll 36 = .ok (.invokevirtual 384, 3) := by decide +kernel
theorem dX12_carryOutAll_39 : decode cX12_carryOutAll 39 = .ok (.ifCond .ge 5, 3) := by decide +kernel
theorem dX12_carryOutAll_42 : decode cX12_carryOutAll 42 = .ok (.iload_n 1, 1) := by decide +kernel
theorem dX12_carryOutAll_43 : decode cX12_carryOutAll 43 = .ok (.ireturn, 1) := by decide +kernel
theorem dX12_carryOutAll_44 : decode cX12_carryOutAll 44 = .ok (.iinc 1 1, 3) := by decide +kernel
theorem dX12_carryOutAll_47 : decode cX12_carryOutAll 47 = .ok (.goto (-45), 3) := by decide +kernel
theorem dX12_carryOutAll_50 : decode cX12_carryOutAll 50 = .ok (.iconst (-1), 1) := by decide +kernel
theorem dX12_carryOutAll_51 : decode cX12_carryOutAll 51 = .ok (.ireturn, 1) := by decide +kernel
theorem dX12_carryOut_0 : decode cX12_carryOut 0 = .ok (.aload_n 1, 1) := by decide +kernel
theorem dX12_carryOut_1 : decode cX12_carryOut 1 = .ok (.aload_n 0, 1) := by decide +kernel
theorem dX12_carryOut_2 : decode cX12_carryOut 2 = .ok (.getfield 50, 3) := by decide +kernel
theorem dX12_carryOut_5 : decode cX12_carryOut 5 = .ok (.iload_n 2, 1) := by decide +kernel
theorem dX12_carryOut_6 : decode cX12_carryOut 6 = .ok (.iconst 0, 1) := by decide +kernel
theorem dX12_carryOut_7 : decode cX12_carryOut 7 = .ok (.invokevirtual 388, 3) := by decide +kernel
theorem dX12_carryOut_10 : decode cX12_carryOut 10 = .ok (.istore_n 3, 1) := by decide +kernel
theorem dX12_carryOut_11 : decode cX12_carryOut 11 = .ok (.aload_n 1, 1) := by decide +kernel
theorem dX12_carryOut_12 : decode cX12_carryOut 12 = .ok (.aload_n 0, 1) := by decide +kernel
theorem dX12_carryOut_13 : decode cX12_carryOut 13 = .ok (.getfield 50, 3) := by decide +kernel
theorem dX12_carryOut_16 : decode cX12_carryOut 16 = .ok (.iload_n 2, 1) := by decide +kernel
theorem dX12_carryOut_17 : decode cX12_carryOut 17 = .ok (.iconst 1, 1) := by decide +kernel
theorem dX12_carryOut_18 : decode cX12_carryOut 18 = .ok (.invokevirtual 388, 3) := by decide +kernel
theorem dX12_carryOut_21 : decode cX12_carryOut 21 = .ok (.istore 4, 2) := by decide +kernel
theorem dX12_carryOut_23 : decode cX12_carryOut 23 = .ok (.getstatic 394, 3) := by decide +kernel
theorem dX12_carryOut_26 : decode cX12_carryOut 26 = .ok (.aload_n 1, 1) := by decide +kernel
theorem dX12_carryOut_27 : decode cX12_carryOut 27 = .ok (.invokevirtual 399, 3) := by decide +kernel
theorem dX12_carryOut_30 : decode cX12_carryOut 30 = .ok (.iaload, 1) := by decide +kernel
theorem dX12_carryOut_31 : decode cX12_carryOut 31 = .ok (.tableswitch 222 1 11 #[57, 68, 79, 90, 105, 119, 133, 145, 156, 199, 213], 57) := by decide +kernel
theorem dX12_carryOut_88 : decode cX12_carryOut 88 = .ok (.aload_n 0, 1) := by decide +kernel
theorem dX12_carryOut_89 : decode cX12_carryOut 89 = .ok (.getfield 12, 3) := by decide +kernel
theorem dX12_carryOut_92 : decode cX12_carryOut 92 = .ok (.iload_n 3, 1) := by decide +kernel
theorem dX12_carryOut_93 : decode cX12_carryOut 93 = .ok (.iload 4, 2) := by decide +kernel
theorem dX12_carryOut_95 : decode cX12_carryOut 95 = .ok (.invokevirtual 76, 3) := by decide +kernel
theorem dX12_carryOut_98 : decode cX12_carryOut 98 = .ok (.ireturn, 1) := by decide +kernel
theorem dX12_carryOut_99 : decode cX12_carryOut 99 = .ok (.aload_n 0, 1) := by decide +kernel
theorem dX12_carryOut_100 : decode cX12_carryOut 100 = .ok (.getfield 12, 3) := by decide +kernel
theorem dX12_carryOut_103 : decode cX12_carryOut 103 = .ok (.iload_n 3, 1) := by decide +kernel
theorem dX12_carryOut_104 : decode cX12_carryOut 104 = .ok (.iload 4, 2) := by decide +kernel
theorem dX12_carryOut_106 : decode cX12_carryOut 106 = .ok (.invokevirtual 84, 3) := by decide +kernel
theorem dX12_carryOut_109 : decode cX12_carryOut 109 = .ok (.ireturn, 1) := by decide +kernel
theorem dX12_carryOut_110 : decode cX12_carryOut 110 = .ok (.aload_n 0, 1) := by decide +kernel
theorem dX12_carryOut_111 : decode cX12_carryOut 111 = .ok (.getfield 12, 3) := by decide +kernel
theorem dX12_carryOut_114 : decode cX12_carryOut 114 = .ok (.iload_n 3, 1) := by decide +kernel
theorem dX12_carryOut_115 : decode cX12_carryOut 115 = .ok (.iload 4, 2) := by decide +kernel
theorem dX12_carryOut_117 : decode cX12_carryOut 117 = .ok (.invokevirtual 125, 3) := by decide +kernel
theorem dX12_carryOut_120 : decode cX12_carryOut 120 = .ok (.ireturn, 1) := by decide +kernel
theorem dX12_carryOut_121 : decode cX12_carryOut 121 = .ok (.aload_n 0, 1) := by decide +kernel
theorem dX12_carryOut_122 : decode cX12_carryOut 122 = .ok (.iload_n 3, 1) := by decide +kernel
theorem dX12_carryOut_123 : decode cX12_carryOut 123 = .ok (.iload_n 2, 1) := by decide +kernel
theorem dX12_carryOut_124 : decode cX12_carryOut 124 = .ok (.aload_n 1, 1) := by decide +kernel
theorem dX12_carryOut_125 : decode cX12_carryOut 125 = .ok (.getfield 402, 3) := by decide +kernel
theorem dX12_carryOut_128 : decode cX12_carryOut 128 = .ok (.invokevirtual 406, 3) := by decide +kernel
theorem dX12_carryOut_131 : decode cX12_carryOut 131 = .ok (.iadd, 1) := by decide +kernel
theorem dX12_carryOut_132 : decode cX12_carryOut 132 = .ok (.invokevirtual 410, 3) := by decide +kernel
theorem dX12_carryOut_135 : decode cX12_carryOut 135 = .ok (.ireturn, 1) := by decide +kernel
theorem dX12_carryOut_136 : decode cX12_carryOut 136 = .ok (.aload_n 0, 1) := by decide +kernel
theorem dX12_carryOut_137 : decode cX12_carryOut 137 = .ok (.getfield 12, 3) := by decide +kernel
theorem dX12_carryOut_140 : decode cX12_carryOut 140 = .ok (.getfield 168, 3) := by decide +kernel
theorem dX12_carryOut_143 : decode cX12_carryOut 143 = .ok (.iload_n 3, 1) := by decide +kernel
theorem dX12_carryOut_144 : decode cX12_carryOut 144 = .ok (.iload 4, 2) := by decide +kernel
theorem dX12_carryOut_146 : decode cX12_carryOut 146 = .ok (.invokevirtual 181, 3) := by decide +kernel
theorem dX12_carryOut_149 : decode cX12_carryOut 149 = .ok (.ireturn, 1) := by decide +kernel
theorem dX12_carryOut_150 : decode cX12_carryOut 150 = .ok (.aload_n 0, 1) := by decide +kernel
theorem dX12_carryOut_151 : decode cX12_carryOut 151 = .ok (.getfield 12, 3) := by decide +kernel
theorem dX12_carryOut_154 : decode cX12_carryOut 154 = .ok (.getfield 168, 3) := by decide +kernel
theorem dX12_carryOut_157 : decode cX12_carryOut 157 = .ok (.iload_n 3, 1) := by decide +kernel
theorem dX12_carryOut_158 : decode cX12_carryOut 158 = .ok (.iload 4, 2) := by decide +kernel
theorem dX12_carryOut_160 : decode cX12_carryOut 160 = .ok (.invokevirtual 184, 3) := by decide +kernel
theorem dX12_carryOut_163 : decode cX12_carryOut 163 = .ok (.ireturn, 1) := by decide +kernel
theorem dX12_carryOut_164 : decode cX12_carryOut 164 = .ok (.aload_n 0, 1) := by decide +kernel
theorem dX12_carryOut_165 : decode cX12_carryOut 165 = .ok (.getfield 12, 3) := by decide +kernel
theorem dX12_carryOut_168 : decode cX12_carryOut 168 = .ok (.getfield 168, 3) := by decide +kernel
theorem dX12_carryOut_171 : decode cX12_carryOut 171 = .ok (.iload_n 3, 1) := by decide +kernel
theorem dX12_carryOut_172 : decode cX12_carryOut 172 = .ok (.invokevirtual 187, 3) := by decide +kernel
theorem dX12_carryOut_175 : decode cX12_carryOut 175 = .ok (.ireturn, 1) := by decide +kernel
theorem dX12_carryOut_176 : decode cX12_carryOut 176 = .ok (.aload_n 0, 1) := by decide +kernel
theorem dX12_carryOut_177 : decode cX12_carryOut 177 = .ok (.getfield 12, 3) := by decide +kernel
theorem dX12_carryOut_180 : decode cX12_carryOut 180 = .ok (.iload_n 3, 1) := by decide +kernel
theorem dX12_carryOut_181 : decode cX12_carryOut 181 = .ok (.iload 4, 2) := by decide +kernel
theorem dX12_carryOut_183 : decode cX12_carryOut 183 = .ok (.invokevirtual 211, 3) := by decide +kernel
theorem dX12_carryOut_186 : decode cX12_carryOut 186 = .ok (.ireturn, 1) := by decide +kernel
theorem dX12_carryOut_187 : decode cX12_carryOut 187 = .ok (.aload_n 1, 1) := by decide +kernel
theorem dX12_carryOut_188 : decode cX12_carryOut 188 = .ok (.aload_n 0, 1) := by decide +kernel
theorem dX12_carryOut_189 : decode cX12_carryOut 189 = .ok (.getfield 50, 3) := by decide +kernel
theorem dX12_carryOut_192 : decode cX12_carryOut 192 = .ok (.iload_n 2, 1) := by decide +kernel
theorem dX12_carryOut_193 : decode cX12_carryOut 193 = .ok (.iconst 2, 1) := by decide +kernel
theorem dX12_carryOut_194 : decode cX12_carryOut 194 = .ok (.invokevirtual 388, 3) := by decide +kernel
theorem dX12_carryOut_197 : decode cX12_carryOut 197 = .ok (.istore 5, 2) := by decide +kernel
theorem dX12_carryOut_199 : decode cX12_carryOut 199 = .ok (.aload_n 1, 1) := by decide +kernel
theorem dX12_carryOut_200 : decode cX12_carryOut 200 = .ok (.aload_n 0, 1) := by decide +kernel
theorem dX12_carryOut_201 : decode cX12_carryOut 201 = .ok (.getfield 50, 3) := by decide +kernel
theorem dX12_carryOut_204 : decode cX12_carryOut 204 = .ok (.iload_n 2, 1) := by decide +kernel
theorem dX12_carryOut_205 : decode cX12_carryOut 205 = .ok (.iconst 3, 1) := by decide +kernel
theorem dX12_carryOut_206 : decode cX12_carryOut 206 = .ok (.invokevirtual 388, 3) := by decide +kernel
theorem dX12_carryOut_209 : decode cX12_carryOut 209 = .ok (.istore 6, 2) := by decide +kernel
theorem dX12_carryOut_211 : decode cX12_carryOut 211 = .ok (.aload_n 0, 1) := by decide +kernel
theorem dX12_carryOut_212 : decode cX12_carryOut 212 = .ok (.getfield 12, 3) := by decide +kernel
theorem dX12_carryOut_215 : decode cX12_carryOut 215 = .ok (.aload_n 0, 1) := by decide +kernel
theorem dX12_carryOut_216 : decode cX12_carryOut 216 = .ok (.getfield 29, 3) := by decide +kernel
theorem dX12_carryOut_219 : decode cX12_carryOut 219 = .ok (.iload_n 3, 1) := by decide +kernel
theorem dX12_carryOut_220 : decode cX12_carryOut 220 = .ok (.iload 4, 2) := by decide +kernel
theorem dX12_carryOut_222 : decode cX12_carryOut 222 = .ok (.iload 5, 2) := by decide +kernel
theorem dX12_carryOut_224 : decode cX12_carryOut 224 = .ok (.iload 6, 2) := by decide +kernel
theorem dX12_carryOut_226 : decode cX12_carryOut 226 = .ok (.invokevirtual 245, 3) := by decide +kernel
theorem dX12_carryOut_229 : decode cX12_carryOut 229 = .ok (.ireturn, 1) := by decide +kernel
theorem dX12_carryOut_230 : decode cX12_carryOut 230 = .ok (.aload_n 0, 1) := by decide +kernel
theorem dX12_carryOut_231 : decode cX12_carryOut 231 = .ok (.getfield 12, 3) := by decide +kernel
theorem dX12_carryOut_234 : decode cX12_carryOut 234 = .ok (.getfield 249, 3) := by decide +kernel
theorem dX12_carryOut_237 : decode cX12_carryOut 237 = .ok (.iload_n 3, 1) := by decide +kernel
theorem dX12_carryOut_238 : decode cX12_carryOut 238 = .ok (.iload 4, 2) := by decide +kernel
theorem dX12_carryOut_240 : decode cX12_carryOut 240 = .ok (.invokevirtual 253, 3) := by decide +kernel
theorem dX12_carryOut_243 : decode cX12_carryOut 243 = .ok (.ireturn, 1) := by decide +kernel
theorem dX12_carryOut_244 : decode cX12_carryOut 244 = .ok (.aload_n 0, 1) := by decide +kernel
theorem dX12_carryOut_245 : decode cX12_carryOut 245 = .ok (.getfield 12, 3) := by decide +kernel
theorem dX12_carryOut_248 : decode cX12_carryOut 248 = .ok (.iload_n 3, 1) := by decide +kernel
theorem dX12_carryOut_249 : decode cX12_carryOut 249 = .ok (.invokevirtual 119, 3) := by decide +kernel
theorem dX12_carryOut_252 : decode cX12_carryOut 252 = .ok (.ireturn, 1) := by decide +kernel
theorem dX12_carryOut_253 : decode cX12_carryOut 253 = .ok (.bipush (-5), 2) := by decide +kernel
theorem dX12_carryOut_255 : decode cX12_carryOut 255 = .ok (.ireturn, 1) := by decide +kernel
theorem dX12_rewritePlan_0 : decode cX12_rewritePlan 0 = .ok (.aload_n 0, 1) := by decide +kernel
theorem dX12_rewritePlan_1 : decode cX12_rewritePlan 1 = .ok (.getfield 12, 3) := by decide +kernel
theorem dX12_rewritePlan_4 : decode cX12_rewritePlan 4 = .ok (.getfield 168, 3) := by decide +kernel
theorem dX12_rewritePlan_7 : decode cX12_rewritePlan 7 = .ok (.iload_n 1, 1) := by decide +kernel
theorem dX12_rewritePlan_8 : decode cX12_rewritePlan 8 = .ok (.invokevirtual 178, 3) := by decide +kernel
theorem dX12_rewritePlan_11 : decode cX12_rewritePlan 11 = .ok (.istore_n 3, 1) := by decide +kernel
theorem dX12_rewritePlan_12 : decode cX12_rewritePlan 12 = .ok (.aload_n 0, 1) := by decide +kernel
theorem dX12_rewritePlan_13 : decode cX12_rewritePlan 13 = .ok (.getfield 50, 3) := by decide +kernel
theorem dX12_rewritePlan_16 : decode cX12_rewritePlan 16 = .ok (.iload_n 2, 1) := by decide +kernel
theorem dX12_rewritePlan_17 : decode cX12_rewritePlan 17 = .ok (.invokevirtual 413, 3) := by decide +kernel
theorem dX12_rewritePlan_20 : decode cX12_rewritePlan 20 = .ok (.istore 4, 2) := by decide +kernel
theorem dX12_rewritePlan_22 : decode cX12_rewritePlan 22 = .ok (.iload_n 2, 1) := by decide +kernel
theorem dX12_rewritePlan_23 : decode cX12_rewritePlan 23 = .ok (.istore 5, 2) := by decide +kernel
theorem dX12_rewritePlan_25 : decode cX12_rewritePlan 25 = .ok (.iload 5, 2) := by decide +kernel
theorem dX12_rewritePlan_27 : decode cX12_rewritePlan 27 = .ok (.iload 4, 2) := by decide +kernel
theorem dX12_rewritePlan_29 : decode cX12_rewritePlan 29 = .ok (.if_icmp .ge 34, 3) := by decide +kernel
theorem dX12_rewritePlan_32 : decode cX12_rewritePlan 32 = .ok (.iload_n 3, 1) := by decide +kernel
theorem dX12_rewritePlan_33 : decode cX12_rewritePlan 33 = .ok (.ifCond .lt 30, 3) := by decide +kernel
theorem dX12_rewritePlan_36 : decode cX12_rewritePlan 36 = .ok (.aload_n 0, 1) := by decide +kernel
theorem dX12_rewritePlan_37 : decode cX12_rewritePlan 37 = .ok (.getfield 12, 3) := by decide +kernel
theorem dX12_rewritePlan_40 : decode cX12_rewritePlan 40 = .ok (.getfield 168, 3) := by decide +kernel
theorem dX12_rewritePlan_43 : decode cX12_rewritePlan 43 = .ok (.iload_n 1, 1) := by decide +kernel
theorem dX12_rewritePlan_44 : decode cX12_rewritePlan 44 = .ok (.aload_n 0, 1) := by decide +kernel
theorem dX12_rewritePlan_45 : decode cX12_rewritePlan 45 = .ok (.getfield 50, 3) := by decide +kernel
theorem dX12_rewritePlan_48 : decode cX12_rewritePlan 48 = .ok (.iload 5, 2) := by decide +kernel
theorem dX12_rewritePlan_50 : decode cX12_rewritePlan 50 = .ok (.invokevirtual 325, 3) := by decide +kernel
theorem dX12_rewritePlan_53 : decode cX12_rewritePlan 53 = .ok (.invokevirtual 172, 3) := by decide +kernel
theorem dX12_rewritePlan_56 : decode cX12_rewritePlan 56 = .ok (.istore_n 3, 1) := by decide +kernel
theorem dX12_rewritePlan_57 : decode cX12_rewritePlan 57 = .ok (.iinc 5 1, 3) := by decide +kernel
theorem dX12_rewritePlan_60 : decode cX12_rewritePlan 60 = .ok (.goto (-35), 3) := by decide +kernel
theorem dX12_rewritePlan_63 : decode cX12_rewritePlan 63 = .ok (.iload_n 3, 1) := by decide +kernel
theorem dX12_rewritePlan_64 : decode cX12_rewritePlan 64 = .ok (.ireturn, 1) := by decide +kernel
theorem dX12_waysAgree_0 : decode cX12_waysAgree 0 = .ok (.iconst 0, 1) := by decide +kernel
theorem dX12_waysAgree_1 : decode cX12_waysAgree 1 = .ok (.istore_n 1, 1) := by decide +kernel
theorem dX12_waysAgree_2 : decode cX12_waysAgree 2 = .ok (.iload_n 1, 1) := by decide +kernel
theorem dX12_waysAgree_3 : decode cX12_waysAgree 3 = .ok (.aload_n 0, 1) := by decide +kernel
theorem dX12_waysAgree_4 : decode cX12_waysAgree 4 = .ok (.getfield 12, 3) := by decide +kernel
theorem dX12_waysAgree_7 : decode cX12_waysAgree 7 = .ok (.getfield 128, 3) := by decide +kernel
theorem dX12_waysAgree_10 : decode cX12_waysAgree 10 = .ok (.getfield 137, 3) := by decide +kernel
theorem dX12_waysAgree_13 : decode cX12_waysAgree 13 = .ok (.if_icmp .ge 100, 3) := by decide +kernel
theorem dX12_waysAgree_16 : decode cX12_waysAgree 16 = .ok (.aload_n 0, 1) := by decide +kernel
theorem dX12_waysAgree_17 : decode cX12_waysAgree 17 = .ok (.getfield 12, 3) := by decide +kernel
theorem dX12_waysAgree_20 : decode cX12_waysAgree 20 = .ok (.getfield 128, 3) := by decide +kernel
theorem dX12_waysAgree_23 : decode cX12_waysAgree 23 = .ok (.getfield 144, 3) := by decide +kernel
theorem dX12_waysAgree_26 : decode cX12_waysAgree 26 = .ok (.iload_n 1, 1) := by decide +kernel
theorem dX12_waysAgree_27 : decode cX12_waysAgree 27 = .ok (.iaload, 1) := by decide +kernel
theorem dX12_waysAgree_28 : decode cX12_waysAgree 28 = .ok (.istore_n 2, 1) := by decide +kernel
theorem dX12_waysAgree_29 : decode cX12_waysAgree 29 = .ok (.aload_n 0, 1) := by decide +kernel
theorem dX12_waysAgree_30 : decode cX12_waysAgree 30 = .ok (.getfield 29, 3) := by decide +kernel
theorem dX12_waysAgree_33 : decode cX12_waysAgree 33 = .ok (.aload_n 0, 1) := by decide +kernel
theorem dX12_waysAgree_34 : decode cX12_waysAgree 34 = .ok (.getfield 12, 3) := by decide +kernel
theorem dX12_waysAgree_37 : decode cX12_waysAgree 37 = .ok (.invokevirtual 217, 3) := by decide +kernel
theorem dX12_waysAgree_40 : decode cX12_waysAgree 40 = .ok (.aload_n 0, 1) := by decide +kernel
theorem dX12_waysAgree_41 : decode cX12_waysAgree 41 = .ok (.getfield 29, 3) := by decide +kernel
theorem dX12_waysAgree_44 : decode cX12_waysAgree 44 = .ok (.iload_n 2, 1) := by decide +kernel
theorem dX12_waysAgree_45 : decode cX12_waysAgree 45 = .ok (.invokevirtual 220, 3) := by decide +kernel
theorem dX12_waysAgree_48 : decode cX12_waysAgree 48 = .ok (.aload_n 0, 1) := by decide +kernel
theorem dX12_waysAgree_49 : decode cX12_waysAgree 49 = .ok (.getfield 29, 3) := by decide +kernel
theorem dX12_waysAgree_52 : decode cX12_waysAgree 52 = .ok (.iload_n 2, 1) := by decide +kernel
theorem dX12_waysAgree_53 : decode cX12_waysAgree 53 = .ok (.invokevirtual 230, 3) := by decide +kernel
theorem dX12_waysAgree_56 : decode cX12_waysAgree 56 = .ok (.aload_n 0, 1) := by decide +kernel
theorem dX12_waysAgree_57 : decode cX12_waysAgree 57 = .ok (.getfield 29, 3) := by decide +kernel
theorem dX12_waysAgree_60 : decode cX12_waysAgree 60 = .ok (.invokevirtual 416, 3) := by decide +kernel
theorem dX12_waysAgree_63 : decode cX12_waysAgree 63 = .ok (.ifCond .ne 5, 3) := by decide +kernel
theorem dX12_waysAgree_66 : decode cX12_waysAgree 66 = .ok (.iconst 0, 1) := by decide +kernel
theorem dX12_waysAgree_67 : decode cX12_waysAgree 67 = .ok (.ireturn, 1) := by decide +kernel
theorem dX12_waysAgree_68 : decode cX12_waysAgree 68 = .ok (.aload_n 0, 1) := by decide +kernel
theorem dX12_waysAgree_69 : decode cX12_waysAgree 69 = .ok (.getfield 29, 3) := by decide +kernel
theorem dX12_waysAgree_72 : decode cX12_waysAgree 72 = .ok (.aload_n 0, 1) := by decide +kernel
theorem dX12_waysAgree_73 : decode cX12_waysAgree 73 = .ok (.getfield 12, 3) := by decide +kernel
theorem dX12_waysAgree_76 : decode cX12_waysAgree 76 = .ok (.invokevirtual 236, 3) := by decide +kernel
theorem dX12_waysAgree_79 : decode cX12_waysAgree 79 = .ok (.aload_n 0, 1) := by decide +kernel
theorem dX12_waysAgree_80 : decode cX12_waysAgree 80 = .ok (.getfield 29, 3) := by decide +kernel
theorem dX12_waysAgree_83 : decode cX12_waysAgree 83 = .ok (.iload_n 2, 1) := by decide +kernel
theorem dX12_waysAgree_84 : decode cX12_waysAgree 84 = .ok (.invokevirtual 239, 3) := by decide +kernel
theorem dX12_waysAgree_87 : decode cX12_waysAgree 87 = .ok (.aload_n 0, 1) := by decide +kernel
theorem dX12_waysAgree_88 : decode cX12_waysAgree 88 = .ok (.getfield 29, 3) := by decide +kernel
theorem dX12_waysAgree_91 : decode cX12_waysAgree 91 = .ok (.iload_n 2, 1) := by decide +kernel
theorem dX12_waysAgree_92 : decode cX12_waysAgree 92 = .ok (.invokevirtual 230, 3) := by decide +kernel
theorem dX12_waysAgree_95 : decode cX12_waysAgree 95 = .ok (.aload_n 0, 1) := by decide +kernel
theorem dX12_waysAgree_96 : decode cX12_waysAgree 96 = .ok (.getfield 29, 3) := by decide +kernel
theorem dX12_waysAgree_99 : decode cX12_waysAgree 99 = .ok (.invokevirtual 416, 3) := by decide +kernel
theorem dX12_waysAgree_102 : decode cX12_waysAgree 102 = .ok (.ifCond .ne 5, 3) := by decide +kernel
theorem dX12_waysAgree_105 : decode cX12_waysAgree 105 = .ok (.iconst 0, 1) := by decide +kernel
theorem dX12_waysAgree_106 : decode cX12_waysAgree 106 = .ok (.ireturn, 1) := by decide +kernel
theorem dX12_waysAgree_107 : decode cX12_waysAgree 107 = .ok (.iinc 1 1, 3) := by decide +kernel
theorem dX12_waysAgree_110 : decode cX12_waysAgree 110 = .ok (.goto (-108), 3) := by decide +kernel
theorem dX12_waysAgree_113 : decode cX12_waysAgree 113 = .ok (.iconst 1, 1) := by decide +kernel
theorem dX12_waysAgree_114 : decode cX12_waysAgree 114 = .ok (.ireturn, 1) := by decide +kernel
theorem dX12_reductionsAgree_0 : decode cX12_reductionsAgree 0 = .ok (.iconst 0, 1) := by decide +kernel
theorem dX12_reductionsAgree_1 : decode cX12_reductionsAgree 1 = .ok (.istore_n 1, 1) := by decide +kernel
theorem dX12_reductionsAgree_2 : decode cX12_reductionsAgree 2 = .ok (.iload_n 1, 1) := by decide +kernel
theorem dX12_reductionsAgree_3 : decode cX12_reductionsAgree 3 = .ok (.bipush 6, 2) := by decide +kernel
theorem dX12_reductionsAgree_5 : decode cX12_reductionsAgree 5 = .ok (.if_icmp .ge 44, 3) := by decide +kernel
theorem dX12_reductionsAgree_8 : decode cX12_reductionsAgree 8 = .ok (.aload_n 0, 1) := by decide +kernel
theorem dX12_reductionsAgree_9 : decode cX12_reductionsAgree 9 = .ok (.getfield 12, 3) := by decide +kernel
theorem dX12_reductionsAgree_12 : decode cX12_reductionsAgree 12 = .ok (.getfield 168, 3) := by decide +kernel
theorem dX12_reductionsAgree_15 : decode cX12_reductionsAgree 15 = .ok (.iload_n 1, 1) := by decide +kernel
theorem dX12_reductionsAgree_16 : decode cX12_reductionsAgree 16 = .ok (.aload_n 0, 1) := by decide +kernel
theorem dX12_reductionsAgree_17 : decode cX12_reductionsAgree 17 = .ok (.getfield 57, 3) := by decide +kernel
theorem dX12_reductionsAgree_20 : decode cX12_reductionsAgree 20 = .ok (.invokevirtual 419, 3) := by decide +kernel
theorem dX12_reductionsAgree_23 : decode cX12_reductionsAgree 23 = .ok (.aload_n 0, 1) := by decide +kernel
theorem dX12_reductionsAgree_24 : decode cX12_reductionsAgree 24 = .ok (.getfield 12, 3) := by decide +kernel
theorem dX12_reductionsAgree_27 : decode cX12_reductionsAgree 27 = .ok (.getfield 168, 3) := by decide +kernel
theorem dX12_reductionsAgree_30 : decode cX12_reductionsAgree 30 = .ok (.iload_n 1, 1) := by decide +kernel
theorem dX12_reductionsAgree_31 : decode cX12_reductionsAgree 31 = .ok (.aload_n 0, 1) := by decide +kernel
theorem dX12_reductionsAgree_32 : decode cX12_reductionsAgree 32 = .ok (.getfield 57, 3) := by decide +kernel
theorem dX12_reductionsAgree_35 : decode cX12_reductionsAgree 35 = .ok (.invokevirtual 193, 3) := by decide +kernel
theorem dX12_reductionsAgree_38 : decode cX12_reductionsAgree 38 = .ok (.if_icmp .eq 5, 3) := by decide +kernel
theorem dX12_reductionsAgree_41 : decode cX12_reductionsAgree 41 = .ok (.iconst 0, 1) := by decide +kernel
theorem dX12_reductionsAgree_42 : decode cX12_reductionsAgree 42 = .ok (.ireturn, 1) := by decide +kernel
theorem dX12_reductionsAgree_43 : decode cX12_reductionsAgree 43 = .ok (.iinc 1 1, 3) := by decide +kernel
theorem dX12_reductionsAgree_46 : decode cX12_reductionsAgree 46 = .ok (.goto (-44), 3) := by decide +kernel
theorem dX12_reductionsAgree_49 : decode cX12_reductionsAgree 49 = .ok (.iconst 1, 1) := by decide +kernel
theorem dX12_reductionsAgree_50 : decode cX12_reductionsAgree 50 = .ok (.ireturn, 1) := by decide +kernel
theorem dX12_pairingsAgree_0 : decode cX12_pairingsAgree 0 = .ok (.aload_n 0, 1) := by decide +kernel
theorem dX12_pairingsAgree_1 : decode cX12_pairingsAgree 1 = .ok (.getfield 12, 3) := by decide +kernel
theorem dX12_pairingsAgree_4 : decode cX12_pairingsAgree 4 = .ok (.getfield 249, 3) := by decide +kernel
theorem dX12_pairingsAgree_7 : decode cX12_pairingsAgree 7 = .ok (.getfield 261, 3) := by decide +kernel
theorem dX12_pairingsAgree_10 : decode cX12_pairingsAgree 10 = .ok (.iconst 2, 1) := by decide +kernel
theorem dX12_pairingsAgree_11 : decode cX12_pairingsAgree 11 = .ok (.irem, 1) := by decide +kernel
theorem dX12_pairingsAgree_12 : decode cX12_pairingsAgree 12 = .ok (.ifCond .ne 34, 3) := by decide +kernel
theorem dX12_pairingsAgree_15 : decode cX12_pairingsAgree 15 = .ok (.aload_n 0, 1) := by decide +kernel
theorem dX12_pairingsAgree_16 : decode cX12_pairingsAgree 16 = .ok (.getfield 36, 3) := by decide +kernel
theorem dX12_pairingsAgree_19 : decode cX12_pairingsAgree 19 = .ok (.aload_n 0, 1) := by decide +kernel
theorem dX12_pairingsAgree_20 : decode cX12_pairingsAgree 20 = .ok (.getfield 12, 3) := by decide +kernel
theorem dX12_pairingsAgree_23 : decode cX12_pairingsAgree 23 = .ok (.getfield 249, 3) := by decide +kernel
theorem dX12_pairingsAgree_26 : decode cX12_pairingsAgree 26 = .ok (.invokevirtual 265, 3) := by decide +kernel
theorem dX12_pairingsAgree_29 : decode cX12_pairingsAgree 29 = .ok (.aload_n 0, 1) := by decide +kernel
theorem dX12_pairingsAgree_30 : decode cX12_pairingsAgree 30 = .ok (.getfield 36, 3) := by decide +kernel
theorem dX12_pairingsAgree_33 : decode cX12_pairingsAgree 33 = .ok (.aload_n 0, 1) := by decide +kernel
theorem dX12_pairingsAgree_34 : decode cX12_pairingsAgree 34 = .ok (.getfield 12, 3) := by decide +kernel
theorem dX12_pairingsAgree_37 : decode cX12_pairingsAgree 37 = .ok (.getfield 249, 3) := by decide +kernel
theorem dX12_pairingsAgree_40 : decode cX12_pairingsAgree 40 = .ok (.invokevirtual 269, 3) := by decide +kernel
theorem dX12_pairingsAgree_43 : decode cX12_pairingsAgree 43 = .ok (.if_icmp .ne 7, 3) := by decide +kernel
theorem dX12_pairingsAgree_46 : decode cX12_pairingsAgree 46 = .ok (.iconst 1, 1) := by decide +kernel
theorem dX12_pairingsAgree_47 : decode cX12_pairingsAgree 47 = .ok (.goto 4, 3) := by decide +kernel
theorem dX12_pairingsAgree_50 : decode cX12_pairingsAgree 50 = .ok (.iconst 0, 1) := by decide +kernel
theorem dX12_pairingsAgree_51 : decode cX12_pairingsAgree 51 = .ok (.ireturn, 1) := by decide +kernel
theorem dX12_cellAt_0 : decode cX12_cellAt 0 = .ok (.iload_n 0, 1) := by decide +kernel
theorem dX12_cellAt_1 : decode cX12_cellAt 1 = .ok (.ifCond .lt 23, 3) := by decide +kernel
theorem dX12_cellAt_4 : decode cX12_cellAt 4 = .ok (.iload_n 0, 1) := by decide +kernel
theorem dX12_cellAt_5 : decode cX12_cellAt 5 = .ok (.bipush 9, 2) := by decide +kernel
theorem dX12_cellAt_7 : decode cX12_cellAt 7 = .ok (.if_icmp .ge 17, 3) := by decide +kernel
theorem dX12_cellAt_10 : decode cX12_cellAt 10 = .ok (.iload_n 1, 1) := by decide +kernel
theorem dX12_cellAt_11 : decode cX12_cellAt 11 = .ok (.ifCond .lt 13, 3) := by decide +kernel
theorem dX12_cellAt_14 : decode cX12_cellAt 14 = .ok (.iload_n 1, 1) := by decide +kernel
theorem dX12_cellAt_15 : decode cX12_cellAt 15 = .ok (.bipush 9, 2) := by decide +kernel
theorem dX12_cellAt_17 : decode cX12_cellAt 17 = .ok (.if_icmp .ge 7, 3) := by decide +kernel
theorem dX12_cellAt_20 : decode cX12_cellAt 20 = .ok (.iconst 1, 1) := by decide +kernel
theorem dX12_cellAt_21 : decode cX12_cellAt 21 = .ok (.goto 4, 3) := by decide +kernel
theorem dX12_cellAt_24 : decode cX12_cellAt 24 = .ok (.iconst 0, 1) := by decide +kernel
theorem dX12_cellAt_25 : decode cX12_cellAt 25 = .ok (.istore_n 2, 1) := by decide +kernel
theorem dX12_cellAt_26 : decode cX12_cellAt 26 = .ok (.iload_n 2, 1) := by decide +kernel
theorem dX12_cellAt_27 : decode cX12_cellAt 27 = .ok (.ifCond .eq 12, 3) := by decide +kernel
theorem dX12_cellAt_30 : decode cX12_cellAt 30 = .ok (.iload_n 1, 1) := by decide +kernel
theorem dX12_cellAt_31 : decode cX12_cellAt 31 = .ok (.bipush 9, 2) := by decide +kernel
theorem dX12_cellAt_33 : decode cX12_cellAt 33 = .ok (.imul, 1) := by decide +kernel
theorem dX12_cellAt_34 : decode cX12_cellAt 34 = .ok (.iload_n 0, 1) := by decide +kernel
theorem dX12_cellAt_35 : decode cX12_cellAt 35 = .ok (.iadd, 1) := by decide +kernel
theorem dX12_cellAt_36 : decode cX12_cellAt 36 = .ok (.goto 4, 3) := by decide +kernel
theorem dX12_cellAt_39 : decode cX12_cellAt 39 = .ok (.iconst (-1), 1) := by decide +kernel
theorem dX12_cellAt_40 : decode cX12_cellAt 40 = .ok (.ireturn, 1) := by decide +kernel
theorem dX12_column_0 : decode cX12_column 0 = .ok (.iload_n 0, 1) := by decide +kernel
theorem dX12_column_1 : decode cX12_column 1 = .ok (.bipush 9, 2) := by decide +kernel
theorem dX12_column_3 : decode cX12_column 3 = .ok (.irem, 1) := by decide +kernel
theorem dX12_column_4 : decode cX12_column 4 = .ok (.ireturn, 1) := by decide +kernel
theorem dX12_row_0 : decode cX12_row 0 = .ok (.iload_n 0, 1) := by decide +kernel
theorem dX12_row_1 : decode cX12_row 1 = .ok (.bipush 9, 2) := by decide +kernel
theorem dX12_row_3 : decode cX12_row 3 = .ok (.idiv, 1) := by decide +kernel
theorem dX12_row_4 : decode cX12_row 4 = .ok (.ireturn, 1) := by decide +kernel
theorem dX12_image_0 : decode cX12_image 0 = .ok (.iload_n 0, 1) := by decide +kernel
theorem dX12_image_1 : decode cX12_image 1 = .ok (.bipush 9, 2) := by decide +kernel
theorem dX12_image_3 : decode cX12_image 3 = .ok (.iadd, 1) := by decide +kernel
theorem dX12_image_4 : decode cX12_image 4 = .ok (.iconst 1, 1) := by decide +kernel
theorem dX12_image_5 : decode cX12_image 5 = .ok (.isub, 1) := by decide +kernel
theorem dX12_image_6 : decode cX12_image 6 = .ok (.iconst 2, 1) := by decide +kernel
theorem dX12_image_7 : decode cX12_image 7 = .ok (.iload_n 0, 1) := by decide +kernel
theorem dX12_image_8 : decode cX12_image 8 = .ok (.bipush 9, 2) := by decide +kernel
theorem dX12_image_10 : decode cX12_image 10 = .ok (.irem, 1) := by decide +kernel
theorem dX12_image_11 : decode cX12_image 11 = .ok (.imul, 1) := by decide +kernel
theorem dX12_image_12 : decode cX12_image 12 = .ok (.isub, 1) := by decide +kernel
theorem dX12_image_13 : decode cX12_image 13 = .ok (.ireturn, 1) := by decide +kernel
theorem dX12_neighbour_0 : decode cX12_neighbour 0 = .ok (.iload_n 0, 1) := by decide +kernel
theorem dX12_neighbour_1 : decode cX12_neighbour 1 = .ok (.bipush 9, 2) := by decide +kernel
theorem dX12_neighbour_3 : decode cX12_neighbour 3 = .ok (.irem, 1) := by decide +kernel
theorem dX12_neighbour_4 : decode cX12_neighbour 4 = .ok (.getstatic 422, 3) := by decide +kernel
theorem dX12_neighbour_7 : decode cX12_neighbour 7 = .ok (.iload_n 1, 1) := by decide +kernel
theorem dX12_neighbour_8 : decode cX12_neighbour 8 = .ok (.iconst 3, 1) := by decide +kernel
theorem dX12_neighbour_9 : decode cX12_neighbour 9 = .ok (.iand, 1) := by decide +kernel
theorem dX12_neighbour_10 : decode cX12_neighbour 10 = .ok (.iaload, 1) := by decide +kernel
theorem dX12_neighbour_11 : decode cX12_neighbour 11 = .ok (.iadd, 1) := by decide +kernel
theorem dX12_neighbour_12 : decode cX12_neighbour 12 = .ok (.istore_n 2, 1) := by decide +kernel
theorem dX12_neighbour_13 : decode cX12_neighbour 13 = .ok (.iload_n 0, 1) := by decide +kernel
theorem dX12_neighbour_14 : decode cX12_neighbour 14 = .ok (.bipush 9, 2) := by decide +kernel
theorem dX12_neighbour_16 : decode cX12_neighbour 16 = .ok (.idiv, 1) := by decide +kernel
theorem dX12_neighbour_17 : decode cX12_neighbour 17 = .ok (.getstatic 425, 3) := by decide +kernel
theorem dX12_neighbour_20 : decode cX12_neighbour 20 = .ok (.iload_n 1, 1) := by decide +kernel
theorem dX12_neighbour_21 : decode cX12_neighbour 21 = .ok (.iconst 3, 1) := by decide +kernel
theorem dX12_neighbour_22 : decode cX12_neighbour 22 = .ok (.iand, 1) := by decide +kernel
theorem dX12_neighbour_23 : decode cX12_neighbour 23 = .ok (.iaload, 1) := by decide +kernel
theorem dX12_neighbour_24 : decode cX12_neighbour 24 = .ok (.iadd, 1) := by decide +kernel
theorem dX12_neighbour_25 : decode cX12_neighbour 25 = .ok (.istore_n 3, 1) := by decide +kernel
theorem dX12_neighbour_26 : decode cX12_neighbour 26 = .ok (.iload_n 2, 1) := by decide +kernel
theorem dX12_neighbour_27 : decode cX12_neighbour 27 = .ok (.iload_n 3, 1) := by decide +kernel
theorem dX12_neighbour_28 : decode cX12_neighbour 28 = .ok (.invokestatic 364, 3) := by decide +kernel
theorem dX12_neighbour_31 : decode cX12_neighbour 31 = .ok (.ireturn, 1) := by decide +kernel
theorem dX12_distance_0 : decode cX12_distance 0 = .ok (.iload_n 0, 1) := by decide +kernel
theorem dX12_distance_1 : decode cX12_distance 1 = .ok (.invokestatic 150, 3) := by decide +kernel
theorem dX12_distance_4 : decode cX12_distance 4 = .ok (.iload_n 1, 1) := by decide +kernel
theorem dX12_distance_5 : decode cX12_distance 5 = .ok (.invokestatic 150, 3) := by decide +kernel
theorem dX12_distance_8 : decode cX12_distance 8 = .ok (.isub, 1) := by decide +kernel
theorem dX12_distance_9 : decode cX12_distance 9 = .ok (.invokestatic 428, 3) := by decide +kernel
theorem dX12_distance_12 : decode cX12_distance 12 = .ok (.iload_n 0, 1) := by decide +kernel
theorem dX12_distance_13 : decode cX12_distance 13 = .ok (.invokestatic 153, 3) := by decide +kernel
theorem dX12_distance_16 : decode cX12_distance 16 = .ok (.iload_n 1, 1) := by decide +kernel
theorem dX12_distance_17 : decode cX12_distance 17 = .ok (.invokestatic 153, 3) := by decide +kernel
theorem dX12_distance_20 : decode cX12_distance 20 = .ok (.isub, 1) := by decide +kernel
theorem dX12_distance_21 : decode cX12_distance 21 = .ok (.invokestatic 428, 3) := by decide +kernel
theorem dX12_distance_24 : decode cX12_distance 24 = .ok (.iadd, 1) := by decide +kernel
theorem dX12_distance_25 : decode cX12_distance 25 = .ok (.ireturn, 1) := by decide +kernel
theorem dX12_letter_0 : decode cX12_letter 0 = .ok (.getstatic 433, 3) := by decide +kernel
theorem dX12_letter_3 : decode cX12_letter 3 = .ok (.iload_n 0, 1) := by decide +kernel
theorem dX12_letter_4 : decode cX12_letter 4 = .ok (.iconst 3, 1) := by decide +kernel
theorem dX12_letter_5 : decode cX12_letter 5 = .ok (.iand, 1) := by decide +kernel
theorem dX12_letter_6 : decode cX12_letter 6 = .ok (.caload, 1) := by decide +kernel
theorem dX12_letter_7 : decode cX12_letter 7 = .ok (.ireturn, 1) := by decide +kernel
theorem dX12_moveOf_0 : decode cX12_moveOf 0 = .ok (.iconst 0, 1) := by decide +kernel
theorem dX12_moveOf_1 : decode cX12_moveOf 1 = .ok (.istore_n 1, 1) := by decide +kernel
theorem dX12_moveOf_2 : decode cX12_moveOf 2 = .ok (.iload_n 1, 1) := by decide +kernel
theorem dX12_moveOf_3 : decode cX12_moveOf 3 = .ok (.iconst 4, 1) := by decide +kernel
theorem dX12_moveOf_4 : decode cX12_moveOf 4 = .ok (.if_icmp .ge 20, 3) := by decide +kernel
theorem dX12_moveOf_7 : decode cX12_moveOf 7 = .ok (.getstatic 433, 3) := by decide +kernel
theorem dX12_moveOf_10 : decode cX12_moveOf 10 = .ok (.iload_n 1, 1) := by decide +kernel
theorem dX12_moveOf_11 : decode cX12_moveOf 11 = .ok (.caload, 1) := by decide +kernel
theorem dX12_moveOf_12 : decode cX12_moveOf 12 = .ok (.iload_n 0, 1) := by decide +kernel
theorem dX12_moveOf_13 : decode cX12_moveOf 13 = .ok (.if_icmp .ne 5, 3) := by decide +kernel
theorem dX12_moveOf_16 : decode cX12_moveOf 16 = .ok (.iload_n 1, 1) := by decide +kernel
theorem dX12_moveOf_17 : decode cX12_moveOf 17 = .ok (.ireturn, 1) := by decide +kernel
theorem dX12_moveOf_18 : decode cX12_moveOf 18 = .ok (.iinc 1 1, 3) := by decide +kernel
theorem dX12_moveOf_21 : decode cX12_moveOf 21 = .ok (.goto (-19), 3) := by decide +kernel
theorem dX12_moveOf_24 : decode cX12_moveOf 24 = .ok (.iconst (-1), 1) := by decide +kernel
theorem dX12_moveOf_25 : decode cX12_moveOf 25 = .ok (.ireturn, 1) := by decide +kernel
theorem dX12_opposite_0 : decode cX12_opposite 0 = .ok (.iload_n 0, 1) := by decide +kernel
theorem dX12_opposite_1 : decode cX12_opposite 1 = .ok (.iconst 1, 1) := by decide +kernel
theorem dX12_opposite_2 : decode cX12_opposite 2 = .ok (.ixor, 1) := by decide +kernel
theorem dX12_opposite_3 : decode cX12_opposite 3 = .ok (.ireturn, 1) := by decide +kernel
theorem dX12_mirrored_0 : decode cX12_mirrored 0 = .ok (.iload_n 0, 1) := by decide +kernel
theorem dX12_mirrored_1 : decode cX12_mirrored 1 = .ok (.iconst 2, 1) := by decide +kernel
theorem dX12_mirrored_2 : decode cX12_mirrored 2 = .ok (.if_icmp .ge 7, 3) := by decide +kernel
theorem dX12_mirrored_5 : decode cX12_mirrored 5 = .ok (.iload_n 0, 1) := by decide +kernel
theorem dX12_mirrored_6 : decode cX12_mirrored 6 = .ok (.goto 7, 3) := by decide +kernel
theorem dX12_mirrored_9 : decode cX12_mirrored 9 = .ok (.iload_n 0, 1) := by decide +kernel
theorem dX12_mirrored_10 : decode cX12_mirrored 10 = .ok (.invokestatic 437, 3) := by decide +kernel
theorem dX12_mirrored_13 : decode cX12_mirrored 13 = .ok (.ireturn, 1) := by decide +kernel
theorem dX12_isPlan_0 : decode cX12_isPlan 0 = .ok (.iload_n 0, 1) := by decide +kernel
theorem dX12_isPlan_1 : decode cX12_isPlan 1 = .ok (.ifCond .lt 13, 3) := by decide +kernel
theorem dX12_isPlan_4 : decode cX12_isPlan 4 = .ok (.iload_n 0, 1) := by decide +kernel
theorem dX12_isPlan_5 : decode cX12_isPlan 5 = .ok (.bipush 6, 2) := by decide +kernel
theorem dX12_isPlan_7 : decode cX12_isPlan 7 = .ok (.if_icmp .ge 7, 3) := by decide +kernel
theorem dX12_isPlan_10 : decode cX12_isPlan 10 = .ok (.iconst 1, 1) := by decide +kernel
theorem dX12_isPlan_11 : decode cX12_isPlan 11 = .ok (.goto 4, 3) := by decide +kernel
theorem dX12_isPlan_14 : decode cX12_isPlan 14 = .ok (.iconst 0, 1) := by decide +kernel
theorem dX12_isPlan_15 : decode cX12_isPlan 15 = .ok (.ireturn, 1) := by decide +kernel
theorem dX13_init_0 : decode cX13_init 0 = .ok (.aload_n 0, 1) := by decide +kernel
theorem dX13_init_1 : decode cX13_init 1 = .ok (.invokespecial 1, 3) := by decide +kernel
theorem dX13_init_4 : decode cX13_init 4 = .ok (.aload_n 0, 1) := by decide +kernel
theorem dX13_init_5 : decode cX13_init 5 = .ok (.iconst (-1), 1) := by decide +kernel
theorem dX13_init_6 : decode cX13_init 6 = .ok (.putfield 7, 3) := by decide +kernel
theorem dX13_init_9 : decode cX13_init 9 = .ok (.aload_n 0, 1) := by decide +kernel
theorem dX13_init_10 : decode cX13_init 10 = .ok (.iconst (-1), 1) := by decide +kernel
theorem dX13_init_11 : decode cX13_init 11 = .ok (.putfield 13, 3) := by decide +kernel
theorem dX13_init_14 : decode cX13_init 14 = .ok (.aload_n 0, 1) := by decide +kernel
theorem dX13_init_15 : decode cX13_init 15 = .ok (.sipush 238, 3) := by decide +kernel
theorem dX13_init_18 : decode cX13_init 18 = .ok (.newarray .int, 2) := by decide +kernel
theorem dX13_init_20 : decode cX13_init 20 = .ok (.putfield 16, 3) := by decide +kernel
theorem dX13_init_23 : decode cX13_init 23 = .ok (.aload_n 0, 1) := by decide +kernel
theorem dX13_init_24 : decode cX13_init 24 = .ok (.sipush 238, 3) := by decide +kernel
theorem dX13_init_27 : decode cX13_init 27 = .ok (.newarray .int, 2) := by decide +kernel
theorem dX13_init_29 : decode cX13_init 29 = .ok (.putfield 20, 3) := by decide +kernel
theorem dX13_init_32 : decode cX13_init 32 = .ok (.aload_n 0, 1) := by decide +kernel
theorem dX13_init_33 : decode cX13_init 33 = .ok (.sipush 238, 3) := by decide +kernel
theorem dX13_init_36 : decode cX13_init 36 = .ok (.newarray .int, 2) := by decide +kernel
theorem dX13_init_38 : decode cX13_init 38 = .ok (.putfield 23, 3) := by decide +kernel
theorem dX13_init_41 : decode cX13_init 41 = .ok (.aload_n 0, 1) := by decide +kernel
theorem dX13_init_42 : decode cX13_init 42 = .ok (.sipush 1904, 3) := by decide +kernel
theorem dX13_init_45 : decode cX13_init 45 = .ok (.newarray .int, 2) := by decide +kernel
theorem dX13_init_47 : decode cX13_init 47 = .ok (.putfield 26, 3) := by decide +kernel
theorem dX13_init_50 : decode cX13_init 50 = .ok (.aload_n 0, 1) := by decide +kernel
theorem dX13_init_51 : decode cX13_init 51 = .ok (.bipush 81, 2) := by decide +kernel
theorem dX13_init_53 : decode cX13_init 53 = .ok (.newarray .int, 2) := by decide +kernel
theorem dX13_init_55 : decode cX13_init 55 = .ok (.putfield 29, 3) := by decide +kernel
theorem dX13_init_58 : decode cX13_init 58 = .ok (.aload_n 0, 1) := by decide +kernel
theorem dX13_init_59 : decode cX13_init 59 = .ok (.bipush 60, 2) := by decide +kernel
theorem dX13_init_61 : decode cX13_init 61 = .ok (.newarray .int, 2) := by decide +kernel
theorem dX13_init_63 : decode cX13_init 63 = .ok (.putfield 32, 3) := by decide +kernel
theorem dX13_init_66 : decode cX13_init 66 = .ok (.aload_n 0, 1) := by decide +kernel
theorem dX13_init_67 : decode cX13_init 67 = .ok (.sipush 256, 3) := by decide +kernel
theorem dX13_init_70 : decode cX13_init 70 = .ok (.newarray .int, 2) := by decide +kernel
theorem dX13_init_72 : decode cX13_init 72 = .ok (.putfield 35, 3) := by decide +kernel
theorem dX13_init_75 : decode cX13_init 75 = .ok (.aload_n 0, 1) := by decide +kernel
theorem dX13_init_76 : decode cX13_init 76 = .ok (.bipush 60, 2) := by decide +kernel
theorem dX13_init_78 : decode cX13_init 78 = .ok (.newarray .int, 2) := by decide +kernel
theorem dX13_init_80 : decode cX13_init 80 = .ok (.putfield 38, 3) := by decide +kernel
theorem dX13_init_83 : decode cX13_init 83 = .ok (.aload_n 0, 1) := by decide +kernel
theorem dX13_init_84 : decode cX13_init 84 = .ok (.bipush 50, 2) := by decide +kernel
theorem dX13_init_86 : decode cX13_init 86 = .ok (.newarray .int, 2) := by decide +kernel
theorem dX13_init_88 : decode cX13_init 88 = .ok (.putfield 41, 3) := by decide +kernel
theorem dX13_init_91 : decode cX13_init 91 = .ok (.aload_n 0, 1) := by decide +kernel
theorem dX13_init_92 : decode cX13_init 92 = .ok (.bipush 11, 2) := by decide +kernel
theorem dX13_init_94 : decode cX13_init 94 = .ok (.newarray .int, 2) := by decide +kernel
theorem dX13_init_96 : decode cX13_init 96 = .ok (.putfield 44, 3) := by decide +kernel
theorem dX13_init_99 : decode cX13_init 99 = .ok (.aload_n 0, 1) := by decide +kernel
theorem dX13_init_100 : decode cX13_init 100 = .ok (.bipush 61, 2) := by decide +kernel
theorem dX13_init_102 : decode cX13_init 102 = .ok (.newarray .int, 2) := by decide +kernel
theorem dX13_init_104 : decode cX13_init 104 = .ok (.dup, 1) := by decide +kernel
theorem dX13_init_105 : decode cX13_init 105 = .ok (.iconst 0, 1) := by decide +kernel
theorem dX13_init_106 : decode cX13_init 106 = .ok (.bipush 114, 2) := by decide +kernel
theorem dX13_init_108 : decode cX13_init 108 = .ok (.iastore, 1) := by decide +kernel
theorem dX13_init_109 : decode cX13_init 109 = .ok (.dup, 1) := by decide +kernel
theorem dX13_init_110 : decode cX13_init 110 = .ok (.iconst 1, 1) := by decide +kernel
theorem dX13_init_111 : decode cX13_init 111 = .ok (.bipush 101, 2) := by decide +kernel
theorem dX13_init_113 : decode cX13_init 113 = .ok (.iastore, 1) := by decide +kernel
theorem dX13_init_114 : decode cX13_init 114 = .ok (.dup, 1) := by decide +kernel
theorem dX13_init_115 : decode cX13_init 115 = .ok (.iconst 2, 1) := by decide +kernel
theorem dX13_init_116 : decode cX13_init 116 = .ok (.bipush 101, 2) := by decide +kernel
theorem dX13_init_118 : decode cX13_init 118 = .ok (.iastore, 1) := by decide +kernel
theorem dX13_init_119 : decode cX13_init 119 = .ok (.dup, 1) := by decide +kernel
theorem dX13_init_120 : decode cX13_init 120 = .ok (.iconst 3, 1) := by decide +kernel
theorem dX13_init_121 : decode cX13_init 121 = .ok (.bipush 100, 2) := by decide +kernel
theorem dX13_init_123 : decode cX13_init 123 = .ok (.iastore, 1) := by decide +kernel
theorem dX13_init_124 : decode cX13_init 124 = .ok (.dup, 1) := by decide +kernel
theorem dX13_init_125 : decode cX13_init 125 = .ok (.iconst 4, 1) := by decide +kernel
theorem dX13_init_126 : decode cX13_init 126 = .ok (.bipush 32, 2) := by decide +kernel
theorem dX13_init_128 : decode cX13_init 128 = .ok (.iastore, 1) := by decide +kernel
theorem dX13_init_129 : decode cX13_init 129 = .ok (.dup, 1) := by decide +kernel
theorem dX13_init_130 : decode cX13_init 130 = .ok (.iconst 5, 1) := by decide +kernel
theorem dX13_init_131 : decode cX13_init 131 = .ok (.bipush 98, 2) := by decide +kernel
theorem dX13_init_133 : decode cX13_init 133 = .ok (.iastore, 1) := by decide +kernel
theorem dX13_init_134 : decode cX13_init 134 = .ok (.dup, 1) := by decide +kernel
theorem dX13_init_135 : decode cX13_init 135 = .ok (.bipush 6, 2) := by decide +kernel
theorem dX13_init_137 : decode cX13_init 137 = .ok (.bipush 114, 2) := by decide +kernel
theorem dX13_init_139 : decode cX13_init 139 = .ok (.iastore, 1) := by decide +kernel
theorem dX13_init_140 : decode cX13_init 140 = .ok (.dup, 1) := by decide +kernel
theorem dX13_init_141 : decode cX13_init 141 = .ok (.bipush 7, 2) := by decide +kernel
theorem dX13_init_143 : decode cX13_init 143 = .ok (.bipush 101, 2) := by decide +kernel
theorem dX13_init_145 : decode cX13_init 145 = .ok (.iastore, 1) := by decide +kernel
theorem dX13_init_146 : decode cX13_init 146 = .ok (.dup, 1) := by decide +kernel
theorem dX13_init_147 : decode cX13_init 147 = .ok (.bipush 8, 2) := by decide +kernel
theorem dX13_init_149 : decode cX13_init 149 = .ok (.bipush 97, 2) := by decide +kernel
theorem dX13_init_151 : decode cX13_init 151 = .ok (.iastore, 1) := by decide +kernel
theorem dX13_init_152 : decode cX13_init 152 = .ok (.dup, 1) := by decide +kernel
theorem dX13_init_153 : decode cX13_init 153 = .ok (.bipush 9, 2) := by decide +kernel
theorem dX13_init_155 : decode cX13_init 155 = .ok (.bipush 107, 2) := by decide +kernel
theorem dX13_init_157 : decode cX13_init 157 = .ok (.iastore, 1) := by decide +kernel
theorem dX13_init_158 : decode cX13_init 158 = .ok (.dup, 1) := by decide +kernel
theorem dX13_init_159 : decode cX13_init 159 = .ok (.bipush 10, 2) := by decide +kernel
theorem dX13_init_161 : decode cX13_init 161 = .ok (.bipush 32, 2) := by decide +kernel
theorem dX13_init_163 : decode cX13_init 163 = .ok (.iastore, 1) := by decide +kernel
theorem dX13_init_164 : decode cX13_init 164 = .ok (.dup, 1) := by decide +kernel
theorem dX13_init_165 : decode cX13_init 165 = .ok (.bipush 11, 2) := by decide +kernel
theorem dX13_init_167 : decode cX13_init 167 = .ok (.bipush 98, 2) := by decide +kernel
theorem dX13_init_169 : decode cX13_init 169 = .ok (.iastore, 1) := by decide +kernel
theorem dX13_init_170 : decode cX13_init 170 = .ok (.dup, 1) := by decide +kernel
theorem dX13_init_171 : decode cX13_init 171 = .ok (.bipush 12, 2) := by decide +kernel
theorem dX13_init_173 : decode cX13_init 173 = .ok (.bipush 111, 2) := by decide +kernel
theorem dX13_init_175 : decode cX13_init 175 = .ok (.iastore, 1) := by decide +kernel
theorem dX13_init_176 : decode cX13_init 176 = .ok (.dup, 1) := by decide +kernel
theorem dX13_init_177 : decode cX13_init 177 = .ok (.bipush 13, 2) := by decide +kernel
theorem dX13_init_179 : decode cX13_init 179 = .ok (.bipush 97, 2) := by decide +kernel
theorem dX13_init_181 : decode cX13_init 181 = .ok (.iastore, 1) := by decide +kernel
theorem dX13_init_182 : decode cX13_init 182 = .ok (.dup, 1) := by decide +kernel
theorem dX13_init_183 : decode cX13_init 183 = .ok (.bipush 14, 2) := by decide +kernel
theorem dX13_init_185 : decode cX13_init 185 = .ok (.bipush 116, 2) := by decide +kernel
theorem dX13_init_187 : decode cX13_init 187 = .ok (.iastore, 1) := by decide +kernel
theorem dX13_init_188 : decode cX13_init 188 = .ok (.dup, 1) := by decide +kernel
theorem dX13_init_189 : decode cX13_init 189 = .ok (.bipush 15, 2) := by decide +kernel
theorem dX13_init_191 : decode cX13_init 191 = .ok (.bipush 32, 2) := by decide +kernel
theorem dX13_init_193 : decode cX13_init 193 = .ok (.iastore, 1) := by decide +kernel
theorem dX13_init_194 : decode cX13_init 194 = .ok (.dup, 1) := by decide +kernel
theorem dX13_init_195 : decode cX13_init 195 = .ok (.bipush 16, 2) := by decide +kernel
theorem dX13_init_197 : decode cX13_init 197 = .ok (.bipush 112, 2) := by decide +kernel
theorem dX13_init_199 : decode cX13_init 199 = .ok (.iastore, 1) := by decide +kernel
theorem dX13_init_200 : decode cX13_init 200 = .ok (.dup, 1) := by decide +kernel
theorem dX13_init_201 : decode cX13_init 201 = .ok (.bipush 17, 2) := by decide +kernel
theorem dX13_init_203 : decode cX13_init 203 = .ok (.bipush 108, 2) := by decide +kernel
theorem dX13_init_205 : decode cX13_init 205 = .ok (.iastore, 1) := by decide +kernel
theorem dX13_init_206 : decode cX13_init 206 = .ok (.dup, 1) := by decide +kernel
theorem dX13_init_207 : decode cX13_init 207 = .ok (.bipush 18, 2) := by decide +kernel
theorem dX13_init_209 : decode cX13_init 209 = .ok (.bipush 97, 2) := by decide +kernel
theorem dX13_init_211 : decode cX13_init 211 = .ok (.iastore, 1) := by decide +kernel
theorem dX13_init_212 : decode cX13_init 212 = .ok (.dup, 1) := by decide +kernel
theorem dX13_init_213 : decode cX13_init 213 = .ok (.bipush 19, 2) := by decide +kernel
theorem dX13_init_215 : decode cX13_init 215 = .ok (.bipush 110, 2) := by decide +kernel
theorem dX13_init_217 : decode cX13_init 217 = .ok (.iastore, 1) := by decide +kernel
theorem dX13_init_218 : decode cX13_init 218 = .ok (.dup, 1) := by decide +kernel
theorem dX13_init_219 : decode cX13_init 219 = .ok (.bipush 20, 2) := by decide +kernel
theorem dX13_init_221 : decode cX13_init 221 = .ok (.bipush 32, 2) := by decide +kernel
theorem dX13_init_223 : decode cX13_init 223 = .ok (.iastore, 1) := by decide +kernel
theorem dX13_init_224 : decode cX13_init 224 = .ok (.dup, 1) := by decide +kernel
theorem dX13_init_225 : decode cX13_init 225 = .ok (.bipush 21, 2) := by decide +kernel
theorem dX13_init_227 : decode cX13_init 227 = .ok (.bipush 109, 2) := by decide +kernel
theorem dX13_init_229 : decode cX13_init 229 = .ok (.iastore, 1) := by decide +kernel
theorem dX13_init_230 : decode cX13_init 230 = .ok (.dup, 1) := by decide +kernel
theorem dX13_init_231 : decode cX13_init 231 = .ok (.bipush 22, 2) := by decide +kernel
theorem dX13_init_233 : decode cX13_init 233 = .ok (.bipush 105, 2) := by decide +kernel
theorem dX13_init_235 : decode cX13_init 235 = .ok (.iastore, 1) := by decide +kernel
theorem dX13_init_236 : decode cX13_init 236 = .ok (.dup, 1) := by decide +kernel
theorem dX13_init_237 : decode cX13_init 237 = .ok (.bipush 23, 2) := by decide +kernel
theorem dX13_init_239 : decode cX13_init 239 = .ok (.bipush 114, 2) := by decide +kernel
theorem dX13_init_241 : decode cX13_init 241 = .ok (.iastore, 1) := by decide +kernel
theorem dX13_init_242 : decode cX13_init 242 = .ok (.dup, 1) := by decide +kernel
theorem dX13_init_243 : decode cX13_init 243 = .ok (.bipush 24, 2) := by decide +kernel
theorem dX13_init_245 : decode cX13_init 245 = .ok (.bipush 114, 2) := by decide +kernel
theorem dX13_init_247 : decode cX13_init 247 = .ok (.iastore, 1) := by decide +kernel
theorem dX13_init_248 : decode cX13_init 248 = .ok (.dup, 1) := by decide +kernel
theorem dX13_init_249 : decode cX13_init 249 = .ok (.bipush 25, 2) := by decide +kernel
theorem dX13_init_251 : decode cX13_init 251 = .ok (.bipush 111, 2) := by decide +kernel
theorem dX13_init_253 : decode cX13_init 253 = .ok (.iastore, 1) := by decide +kernel
theorem dX13_init_254 : decode cX13_init 254 = .ok (.dup, 1) := by decide +kernel
theorem dX13_init_255 : decode cX13_init 255 = .ok (.bipush 26, 2) := by decide +kernel
theorem dX13_init_257 : decode cX13_init 257 = .ok (.bipush 114, 2) := by decide +kernel
theorem dX13_init_259 : decode cX13_init 259 = .ok (.iastore, 1) := by decide +kernel
theorem dX13_init_260 : decode cX13_init 260 = .ok (.dup, 1) := by decide +kernel
theorem dX13_init_261 : decode cX13_init 261 = .ok (.bipush 27, 2) := by decide +kernel
theorem dX13_init_263 : decode cX13_init 263 = .ok (.bipush 32, 2) := by decide +kernel
theorem dX13_init_265 : decode cX13_init 265 = .ok (.iastore, 1) := by decide +kernel
theorem dX13_init_266 : decode cX13_init 266 = .ok (.dup, 1) := by decide +kernel
theorem dX13_init_267 : decode cX13_init 267 = .ok (.bipush 28, 2) := by decide +kernel
theorem dX13_init_269 : decode cX13_init 269 = .ok (.bipush 98, 2) := by decide +kernel
theorem dX13_init_271 : decode cX13_init 271 = .ok (.iastore, 1) := by decide +kernel
theorem dX13_init_272 : decode cX13_init 272 = .ok (.dup, 1) := by decide +kernel
theorem dX13_init_273 : decode cX13_init 273 = .ok (.bipush 29, 2) := by decide +kernel
theorem dX13_init_275 : decode cX13_init 275 = .ok (.bipush 97, 2) := by decide +kernel
theorem dX13_init_277 : decode cX13_init 277 = .ok (.iastore, 1) := by decide +kernel
theorem dX13_init_278 : decode cX13_init 278 = .ok (.dup, 1) := by decide +kernel
theorem dX13_init_279 : decode cX13_init 279 = .ok (.bipush 30, 2) := by decide +kernel
theorem dX13_init_281 : decode cX13_init 281 = .ok (.bipush 99, 2) := by decide +kernel
theorem dX13_init_283 : decode cX13_init 283 = .ok (.iastore, 1) := by decide +kernel
theorem dX13_init_284 : decode cX13_init 284 = .ok (.dup, 1) := by decide +kernel
theorem dX13_init_285 : decode cX13_init 285 = .ok (.bipush 31, 2) := by decide +kernel
theorem dX13_init_287 : decode cX13_init 287 = .ok (.bipush 107, 2) := by decide +kernel
theorem dX13_init_289 : decode cX13_init 289 = .ok (.iastore, 1) := by decide +kernel
theorem dX13_init_290 : decode cX13_init 290 = .ok (.dup, 1) := by decide +kernel
theorem dX13_init_291 : decode cX13_init 291 = .ok (.bipush 32, 2) := by decide +kernel
theorem dX13_init_293 : decode cX13_init 293 = .ok (.bipush 32, 2) := by decide +kernel
theorem dX13_init_295 : decode cX13_init 295 = .ok (.iastore, 1) := by decide +kernel
theorem dX13_init_296 : decode cX13_init 296 = .ok (.dup, 1) := by decide +kernel
theorem dX13_init_297 : decode cX13_init 297 = .ok (.bipush 33, 2) := by decide +kernel
theorem dX13_init_299 : decode cX13_init 299 = .ok (.bipush 114, 2) := by decide +kernel
theorem dX13_init_301 : decode cX13_init 301 = .ok (.iastore, 1) := by decide +kernel
theorem dX13_init_302 : decode cX13_init 302 = .ok (.dup, 1) := by decide +kernel
theorem dX13_init_303 : decode cX13_init 303 = .ok (.bipush 34, 2) := by decide +kernel
theorem dX13_init_305 : decode cX13_init 305 = .ok (.bipush 101, 2) := by decide +kernel
theorem dX13_init_307 : decode cX13_init 307 = .ok (.iastore, 1) := by decide +kernel
theorem dX13_init_308 : decode cX13_init 308 = .ok (.dup, 1) := by decide +kernel
theorem dX13_init_309 : decode cX13_init 309 = .ok (.bipush 35, 2) := by decide +kernel
theorem dX13_init_311 : decode cX13_init 311 = .ok (.bipush 100, 2) := by decide +kernel
theorem dX13_init_313 : decode cX13_init 313 = .ok (.iastore, 1) := by decide +kernel
theorem dX13_init_314 : decode cX13_init 314 = .ok (.dup, 1) := by decide +kernel
theorem dX13_init_315 : decode cX13_init 315 = .ok (.bipush 36, 2) := by decide +kernel
theorem dX13_init_317 : decode cX13_init 317 = .ok (.bipush 117, 2) := by decide +kernel
theorem dX13_init_319 : decode cX13_init 319 = .ok (.iastore, 1) := by decide +kernel
theorem dX13_init_320 : decode cX13_init 320 = .ok (.dup, 1) := by decide +kernel
theorem dX13_init_321 : decode cX13_init 321 = .ok (.bipush 37, 2) := by decide +kernel
theorem dX13_init_323 : decode cX13_init 323 = .ok (.bipush 99, 2) := by decide +kernel
theorem dX13_init_325 : decode cX13_init 325 = .ok (.iastore, 1) := by decide +kernel
theorem dX13_init_326 : decode cX13_init 326 = .ok (.dup, 1) := by decide +kernel
theorem dX13_init_327 : decode cX13_init 327 = .ok (.bipush 38, 2) := by decide +kernel
theorem dX13_init_329 : decode cX13_init 329 = .ok (.bipush 101, 2) := by decide +kernel
theorem dX13_init_331 : decode cX13_init 331 = .ok (.iastore, 1) := by decide +kernel
theorem dX13_init_332 : decode cX13_init 332 = .ok (.dup, 1) := by decide +kernel
theorem dX13_init_333 : decode cX13_init 333 = .ok (.bipush 39, 2) := by decide +kernel
theorem dX13_init_335 : decode cX13_init 335 = .ok (.bipush 32, 2) := by decide +kernel
theorem dX13_init_337 : decode cX13_init 337 = .ok (.iastore, 1) := by decide +kernel
theorem dX13_init_338 : decode cX13_init 338 = .ok (.dup, 1) := by decide +kernel
theorem dX13_init_339 : decode cX13_init 339 = .ok (.bipush 40, 2) := by decide +kernel
theorem dX13_init_341 : decode cX13_init 341 = .ok (.bipush 115, 2) := by decide +kernel
theorem dX13_init_343 : decode cX13_init 343 = .ok (.iastore, 1) := by decide +kernel
theorem dX13_init_344 : decode cX13_init 344 = .ok (.dup, 1) := by decide +kernel
theorem dX13_init_345 : decode cX13_init 345 = .ok (.bipush 41, 2) := by decide +kernel
theorem dX13_init_347 : decode cX13_init 347 = .ok (.bipush 97, 2) := by decide +kernel
theorem dX13_init_349 : decode cX13_init 349 = .ok (.iastore, 1) := by decide +kernel
theorem dX13_init_350 : decode cX13_init 350 = .ok (.dup, 1) := by decide +kernel
theorem dX13_init_351 : decode cX13_init 351 = .ok (.bipush 42, 2) := by decide +kernel
theorem dX13_init_353 : decode cX13_init 353 = .ok (.bipush 105, 2) := by decide +kernel
theorem dX13_init_355 : decode cX13_init 355 = .ok (.iastore, 1) := by decide +kernel
theorem dX13_init_356 : decode cX13_init 356 = .ok (.dup, 1) := by decide +kernel
theorem dX13_init_357 : decode cX13_init 357 = .ok (.bipush 43, 2) := by decide +kernel
theorem dX13_init_359 : decode cX13_init 359 = .ok (.bipush 108, 2) := by decide +kernel
theorem dX13_init_361 : decode cX13_init 361 = .ok (.iastore, 1) := by decide +kernel
theorem dX13_init_362 : decode cX13_init 362 = .ok (.dup, 1) := by decide +kernel
theorem dX13_init_363 : decode cX13_init 363 = .ok (.bipush 44, 2) := by decide +kernel
theorem dX13_init_365 : decode cX13_init 365 = .ok (.bipush 32, 2) := by decide +kernel
theorem dX13_init_367 : decode cX13_init 367 = .ok (.iastore, 1) := by decide +kernel
theorem dX13_init_368 : decode cX13_init 368 = .ok (.dup, 1) := by decide +kernel
theorem dX13_init_369 : decode cX13_init 369 = .ok (.bipush 45, 2) := by decide +kernel
theorem dX13_init_371 : decode cX13_init 371 = .ok (.bipush 119, 2) := by decide +kernel
theorem dX13_init_373 : decode cX13_init 373 = .ok (.iastore, 1) := by decide +kernel
theorem dX13_init_374 : decode cX13_init 374 = .ok (.dup, 1) := by decide +kernel
theorem dX13_init_375 : decode cX13_init 375 = .ok (.bipush 46, 2) := by decide +kernel
theorem dX13_init_377 : decode cX13_init 377 = .ok (.bipush 97, 2) := by decide +kernel
theorem dX13_init_379 : decode cX13_init 379 = .ok (.iastore, 1) := by decide +kernel
theorem dX13_init_380 : decode cX13_init 380 = .ok (.dup, 1) := by decide +kernel
theorem dX13_init_381 : decode cX13_init 381 = .ok (.bipush 47, 2) := by decide +kernel
theorem dX13_init_383 : decode cX13_init 383 = .ok (.bipush 121, 2) := by decide +kernel
theorem dX13_init_385 : decode cX13_init 385 = .ok (.iastore, 1) := by decide +kernel
theorem dX13_init_386 : decode cX13_init 386 = .ok (.dup, 1) := by decide +kernel
theorem dX13_init_387 : decode cX13_init 387 = .ok (.bipush 48, 2) := by decide +kernel
theorem dX13_init_389 : decode cX13_init 389 = .ok (.bipush 32, 2) := by decide +kernel
theorem dX13_init_391 : decode cX13_init 391 = .ok (.iastore, 1) := by decide +kernel
theorem dX13_init_392 : decode cX13_init 392 = .ok (.dup, 1) := by decide +kernel
theorem dX13_init_393 : decode cX13_init 393 = .ok (.bipush 49, 2) := by decide +kernel
theorem dX13_init_395 : decode cX13_init 395 = .ok (.bipush 108, 2) := by decide +kernel
theorem dX13_init_397 : decode cX13_init 397 = .ok (.iastore, 1) := by decide +kernel
theorem dX13_init_398 : decode cX13_init 398 = .ok (.dup, 1) := by decide +kernel
theorem dX13_init_399 : decode cX13_init 399 = .ok (.bipush 50, 2) := by decide +kernel
theorem dX13_init_401 : decode cX13_init 401 = .ok (.bipush 97, 2) := by decide +kernel
theorem dX13_init_403 : decode cX13_init 403 = .ok (.iastore, 1) := by decide +kernel
theorem dX13_init_404 : decode cX13_init 404 = .ok (.dup, 1) := by decide +kernel
theorem dX13_init_405 : decode cX13_init 405 = .ok (.bipush 51, 2) := by decide +kernel
theorem dX13_init_407 : decode cX13_init 407 = .ok (.bipush 110, 2) := by decide +kernel
theorem dX13_init_409 : decode cX13_init 409 = .ok (.iastore, 1) := by decide +kernel
theorem dX13_init_410 : decode cX13_init 410 = .ok (.dup, 1) := by decide +kernel
theorem dX13_init_411 : decode cX13_init 411 = .ok (.bipush 52, 2) := by decide +kernel
theorem dX13_init_413 : decode cX13_init 413 = .ok (.bipush 100, 2) := by decide +kernel
theorem dX13_init_415 : decode cX13_init 415 = .ok (.iastore, 1) := by decide +kernel
theorem dX13_init_416 : decode cX13_init 416 = .ok (.dup, 1) := by decide +kernel
theorem dX13_init_417 : decode cX13_init 417 = .ok (.bipush 53, 2) := by decide +kernel
theorem dX13_init_419 : decode cX13_init 419 = .ok (.bipush 105, 2) := by decide +kernel
theorem dX13_init_421 : decode cX13_init 421 = .ok (.iastore, 1) := by decide +kernel
theorem dX13_init_422 : decode cX13_init 422 = .ok (.dup, 1) := by decide +kernel
theorem dX13_init_423 : decode cX13_init 423 = .ok (.bipush 54, 2) := by decide +kernel
theorem dX13_init_425 : decode cX13_init 425 = .ok (.bipush 110, 2) := by decide +kernel
theorem dX13_init_427 : decode cX13_init 427 = .ok (.iastore, 1) := by decide +kernel
theorem dX13_init_428 : decode cX13_init 428 = .ok (.dup, 1) := by decide +kernel
theorem dX13_init_429 : decode cX13_init 429 = .ok (.bipush 55, 2) := by decide +kernel
theorem dX13_init_431 : decode cX13_init 431 = .ok (.bipush 103, 2) := by decide +kernel
theorem dX13_init_433 : decode cX13_init 433 = .ok (.iastore, 1) := by decide +kernel
theorem dX13_init_434 : decode cX13_init 434 = .ok (.dup, 1) := by decide +kernel
theorem dX13_init_435 : decode cX13_init 435 = .ok (.bipush 56, 2) := by decide +kernel
theorem dX13_init_437 : decode cX13_init 437 = .ok (.bipush 32, 2) := by decide +kernel
theorem dX13_init_439 : decode cX13_init 439 = .ok (.iastore, 1) := by decide +kernel
theorem dX13_init_440 : decode cX13_init 440 = .ok (.dup, 1) := by decide +kernel
theorem dX13_init_441 : decode cX13_init 441 = .ok (.bipush 57, 2) := by decide +kernel
theorem dX13_init_443 : decode cX13_init 443 = .ok (.bipush 102, 2) := by decide +kernel
theorem dX13_init_445 : decode cX13_init 445 = .ok (.iastore, 1) := by decide +kernel
theorem dX13_init_446 : decode cX13_init 446 = .ok (.dup, 1) := by decide +kernel
theorem dX13_init_447 : decode cX13_init 447 = .ok (.bipush 58, 2) := by decide +kernel
theorem dX13_init_449 : decode cX13_init 449 = .ok (.bipush 111, 2) := by decide +kernel
theorem dX13_init_451 : decode cX13_init 451 = .ok (.iastore, 1) := by decide +kernel
theorem dX13_init_452 : decode cX13_init 452 = .ok (.dup, 1) := by decide +kernel
theorem dX13_init_453 : decode cX13_init 453 = .ok (.bipush 59, 2) := by decide +kernel
theorem dX13_init_455 : decode cX13_init 455 = .ok (.bipush 103, 2) := by decide +kernel
theorem dX13_init_457 : decode cX13_init 457 = .ok (.iastore, 1) := by decide +kernel
theorem dX13_init_458 : decode cX13_init 458 = .ok (.dup, 1) := by decide +kernel
theorem dX13_init_459 : decode cX13_init 459 = .ok (.bipush 60, 2) := by decide +kernel
theorem dX13_init_461 : decode cX13_init 461 = .ok (.bipush 32, 2) := by decide +kernel
theorem dX13_init_463 : decode cX13_init 463 = .ok (.iastore, 1) := by decide +kernel
theorem dX13_init_464 : decode cX13_init 464 = .ok (.putfield 47, 3) := by decide +kernel
theorem dX13_init_467 : decode cX13_init 467 = .ok (.aload_n 0, 1) := by decide +kernel
theorem dX13_init_468 : decode cX13_init 468 = .ok (.bipush 12, 2) := by decide +kernel
theorem dX13_init_470 : decode cX13_init 470 = .ok (.newarray .int, 2) := by decide +kernel
theorem dX13_init_472 : decode cX13_init 472 = .ok (.dup, 1) := by decide +kernel
theorem dX13_init_473 : decode cX13_init 473 = .ok (.iconst 0, 1) := by decide +kernel
theorem dX13_init_474 : decode cX13_init 474 = .ok (.iconst 0, 1) := by decide +kernel
theorem dX13_init_475 : decode cX13_init 475 = .ok (.iastore, 1) := by decide +kernel
theorem dX13_init_476 : decode cX13_init 476 = .ok (.dup, 1) := by decide +kernel
theorem dX13_init_477 : decode cX13_init 477 = .ok (.iconst 1, 1) := by decide +kernel
theorem dX13_init_478 : decode cX13_init 478 = .ok (.iconst 5, 1) := by decide +kernel
theorem dX13_init_479 : decode cX13_init 479 = .ok (.iastore, 1) := by decide +kernel
theorem dX13_init_480 : decode cX13_init 480 = .ok (.dup, 1) := by decide +kernel
theorem dX13_init_481 : decode cX13_init 481 = .ok (.iconst 2, 1) := by decide +kernel
theorem dX13_init_482 : decode cX13_init 482 = .ok (.bipush 11, 2) := by decide +kernel
theorem dX13_init_484 : decode cX13_init 484 = .ok (.iastore, 1) := by decide +kernel
theorem dX13_init_485 : decode cX13_init 485 = .ok (.dup, 1) := by decide +kernel
theorem dX13_init_486 : decode cX13_init 486 = .ok (.iconst 3, 1) := by decide +kernel
theorem dX13_init_487 : decode cX13_init 487 = .ok (.bipush 16, 2) := by decide +kernel
theorem dX13_init_489 : decode cX13_init 489 = .ok (.iastore, 1) := by decide +kernel
theorem dX13_init_490 : decode cX13_init 490 = .ok (.dup, 1) := by decide +kernel
theorem dX13_init_491 : decode cX13_init 491 = .ok (.iconst 4, 1) := by decide +kernel
theorem dX13_init_492 : decode cX13_init 492 = .ok (.bipush 21, 2) := by decide +kernel
theorem dX13_init_494 : decode cX13_init 494 = .ok (.iastore, 1) := by decide +kernel
theorem dX13_init_495 : decode cX13_init 495 = .ok (.dup, 1) := by decide +kernel
theorem dX13_init_496 : decode cX13_init 496 = .ok (.iconst 5, 1) := by decide +kernel
theorem dX13_init_497 : decode cX13_init 497 = .ok (.bipush 28, 2) := by decide +kernel
theorem dX13_init_499 : decode cX13_init 499 = .ok (.iastore, 1) := by decide +kernel
theorem dX13_init_500 : decode cX13_init 500 = .ok (.dup, 1) := by decide +kernel
theorem dX13_init_501 : decode cX13_init 501 = .ok (.bipush 6, 2) := by decide +kernel
theorem dX13_init_503 : decode cX13_init 503 = .ok (.bipush 33, 2) := by decide +kernel
theorem dX13_init_505 : decode cX13_init 505 = .ok (.iastore, 1) := by decide +kernel
theorem dX13_init_506 : decode cX13_init 506 = .ok (.dup, 1) := by decide +kernel
theorem dX13_init_507 : decode cX13_init 507 = .ok (.bipush 7, 2) := by decide +kernel
theorem dX13_init_509 : decode cX13_init 509 = .ok (.bipush 40, 2) := by decide +kernel
theorem dX13_init_511 : decode cX13_init 511 = .ok (.iastore, 1) := by decide +kernel
theorem dX13_init_512 : decode cX13_init 512 = .ok (.dup, 1) := by decide +kernel
theorem dX13_init_513 : decode cX13_init 513 = .ok (.bipush 8, 2) := by decide +kernel
theorem dX13_init_515 : decode cX13_init 515 = .ok (.bipush 45, 2) := by decide +kernel
theorem dX13_init_517 : decode cX13_init 517 = .ok (.iastore, 1) := by decide +kernel
theorem dX13_init_518 : decode cX13_init 518 = .ok (.dup, 1) := by decide +kernel
theorem dX13_init_519 : decode cX13_init 519 = .ok (.bipush 9, 2) := by decide +kernel
theorem dX13_init_521 : decode cX13_init 521 = .ok (.bipush 49, 2) := by decide +kernel
theorem dX13_init_523 : decode cX13_init 523 = .ok (.iastore, 1) := by decide +kernel
theorem dX13_init_524 : decode cX13_init 524 = .ok (.dup, 1) := by decide +kernel
theorem dX13_init_525 : decode cX13_init 525 = .ok (.bipush 10, 2) := by decide +kernel
theorem dX13_init_527 : decode cX13_init 527 = .ok (.bipush 57, 2) := by decide +kernel
theorem dX13_init_529 : decode cX13_init 529 = .ok (.iastore, 1) := by decide +kernel
theorem dX13_init_530 : decode cX13_init 530 = .ok (.dup, 1) := by decide +kernel
theorem dX13_init_531 : decode cX13_init 531 = .ok (.bipush 11, 2) := by decide +kernel
theorem dX13_init_533 : decode cX13_init 533 = .ok (.bipush 61, 2) := by decide +kernel
theorem dX13_init_535 : decode cX13_init 535 = .ok (.iastore, 1) := by decide +kernel
theorem dX13_init_536 : decode cX13_init 536 = .ok (.putfield 50, 3) := by decide +kernel
theorem dX13_init_539 : decode cX13_init 539 = .ok (.return_, 1) := by decide +kernel
theorem dX13_thrown_0 : decode cX13_thrown 0 = .ok (.aload_n 0, 1) := by decide +kernel
theorem dX13_thrown_1 : decode cX13_thrown 1 = .ok (.getfield 53, 3) := by decide +kernel
theorem dX13_thrown_4 : decode cX13_thrown 4 = .ok (.ireturn, 1) := by decide +kernel
theorem dX13_fail_0 : decode cX13_fail 0 = .ok (.aload_n 0, 1) := by decide +kernel
theorem dX13_fail_1 : decode cX13_fail 1 = .ok (.iload_n 1, 1) := by decide +kernel
theorem dX13_fail_2 : decode cX13_fail 2 = .ok (.putfield 53, 3) := by decide +kernel
theorem dX13_fail_5 : decode cX13_fail 5 = .ok (.iconst 0, 1) := by decide +kernel
theorem dX13_fail_6 : decode cX13_fail 6 = .ok (.ireturn, 1) := by decide +kernel
theorem dX13_isIn_0 : decode cX13_isIn 0 = .ok (.iload_n 0, 1) := by decide +kernel
theorem dX13_isIn_1 : decode cX13_isIn 1 = .ok (.iload_n 1, 1) := by decide +kernel
theorem dX13_isIn_2 : decode cX13_isIn 2 = .ok (.if_icmp .lt 12, 3) := by decide +kernel
theorem dX13_isIn_5 : decode cX13_isIn 5 = .ok (.iload_n 0, 1) := by decide +kernel
theorem dX13_isIn_6 : decode cX13_isIn 6 = .ok (.iload_n 2, 1) := by decide +kernel
theorem dX13_isIn_7 : decode cX13_isIn 7 = .ok (.if_icmp .gt 7, 3) := by decide +kernel
theorem dX13_isIn_10 : decode cX13_isIn 10 = .ok (.iconst 1, 1) := by decide +kernel
theorem dX13_isIn_11 : decode cX13_isIn 11 = .ok (.goto 4, 3) := by decide +kernel
theorem dX13_isIn_14 : decode cX13_isIn 14 = .ok (.iconst 0, 1) := by decide +kernel
theorem dX13_isIn_15 : decode cX13_isIn 15 = .ok (.ireturn, 1) := by decide +kernel
theorem dX13_lays_0 : decode cX13_lays 0 = .ok (.iconst 0, 1) := by decide +kernel
theorem dX13_lays_1 : decode cX13_lays 1 = .ok (.istore_n 2, 1) := by decide +kernel
theorem dX13_lays_2 : decode cX13_lays 2 = .ok (.iload_n 2, 1) := by decide +kernel
theorem dX13_lays_3 : decode cX13_lays 3 = .ok (.sipush 238, 3) := by decide +kernel
theorem dX13_lays_6 : decode cX13_lays 6 = .ok (.if_icmp .ge 15, 3) := by decide +kernel
theorem dX13_lays_9 : decode cX13_lays 9 = .ok (.aload_n 0, 1) := by decide +kernel
theorem dX13_lays_10 : decode cX13_lays 10 = .ok (.iload_n 2, 1) := by decide +kernel
theorem dX13_lays_11 : decode cX13_lays 11 = .ok (.aload_n 1, 1) := by decide +kernel
theorem dX13_lays_12 : decode cX13_lays 12 = .ok (.iload_n 2, 1) := by decide +kernel
theorem dX13_lays_13 : decode cX13_lays 13 = .ok (.iaload, 1) := by decide +kernel
theorem dX13_lays_14 : decode cX13_lays 14 = .ok (.iastore, 1) := by decide +kernel
theorem dX13_lays_15 : decode cX13_lays 15 = .ok (.iinc 2 1, 3) := by decide +kernel
theorem dX13_lays_18 : decode cX13_lays 18 = .ok (.goto (-16), 3) := by decide +kernel
theorem dX13_lays_21 : decode cX13_lays 21 = .ok (.return_, 1) := by decide +kernel
theorem dX13_begins_0 : decode cX13_begins 0 = .ok (.aload_n 0, 1) := by decide +kernel
theorem dX13_begins_1 : decode cX13_begins 1 = .ok (.iconst 0, 1) := by decide +kernel
theorem dX13_begins_2 : decode cX13_begins 2 = .ok (.putfield 53, 3) := by decide +kernel
theorem dX13_begins_5 : decode cX13_begins 5 = .ok (.aload_n 0, 1) := by decide +kernel
theorem dX13_begins_6 : decode cX13_begins 6 = .ok (.getfield 20, 3) := by decide +kernel
theorem dX13_begins_9 : decode cX13_begins 9 = .ok (.aload_n 0, 1) := by decide +kernel
theorem dX13_begins_10 : decode cX13_begins 10 = .ok (.getfield 16, 3) := by decide +kernel
theorem dX13_begins_13 : decode cX13_begins 13 = .ok (.invokestatic 56, 3) := by decide +kernel
theorem dX13_begins_16 : decode cX13_begins 16 = .ok (.return_, 1) := by decide +kernel
theorem dX13_ends_0 : decode cX13_ends 0 = .ok (.aload_n 0, 1) := by decide +kernel
theorem dX13_ends_1 : decode cX13_ends 1 = .ok (.getfield 53, 3) := by decide +kernel
theorem dX13_ends_4 : decode cX13_ends 4 = .ok (.ifCond .eq 16, 3) := by decide +kernel
theorem dX13_ends_7 : decode cX13_ends 7 = .ok (.aload_n 0, 1) := by decide +kernel
theorem dX13_ends_8 : decode cX13_ends 8 = .ok (.getfield 16, 3) := by decide +kernel
theorem dX13_ends_11 : decode cX13_ends 11 = .ok (.aload_n 0, 1) := by decide +kernel
theorem dX13_ends_12 : decode cX13_ends 12 = .ok (.getfield 20, 3) := by decide +kernel
theorem dX13_ends_15 : decode cX13_ends 15 = .ok (.invokestatic 56, 3) := by decide +kernel
theorem dX13_ends_18 : decode cX13_ends 18 = .ok (.iconst 0, 1) := by decide +kernel
theorem dX13_ends_19 : decode cX13_ends 19 = .ok (.ireturn, 1) := by decide +kernel
theorem dX13_ends_20 : decode cX13_ends 20 = .ok (.aload_n 0, 1) := by decide +kernel
theorem dX13_ends_21 : decode cX13_ends 21 = .ok (.getfield 60, 3) := by decide +kernel
theorem dX13_ends_24 : decode cX13_ends 24 = .ok (.bipush 8, 2) := by decide +kernel
theorem dX13_ends_26 : decode cX13_ends 26 = .ok (.if_icmp .ne 44, 3) := by decide +kernel
theorem dX13_ends_29 : decode cX13_ends 29 = .ok (.iconst 0, 1) := by decide +kernel
theorem dX13_ends_30 : decode cX13_ends 30 = .ok (.istore_n 2, 1) := by decide +kernel
theorem dX13_ends_31 : decode cX13_ends 31 = .ok (.iload_n 2, 1) := by decide +kernel
theorem dX13_ends_32 : decode cX13_ends 32 = .ok (.sipush 1666, 3) := by decide +kernel
theorem dX13_ends_35 : decode cX13_ends 35 = .ok (.if_icmp .ge 25, 3) := by decide +kernel
theorem dX13_ends_38 : decode cX13_ends 38 = .ok (.aload_n 0, 1) := by decide +kernel
theorem dX13_ends_39 : decode cX13_ends 39 = .ok (.getfield 26, 3) := by decide +kernel
theorem dX13_ends_42 : decode cX13_ends 42 = .ok (.iload_n 2, 1) := by decide +kernel
theorem dX13_ends_43 : decode cX13_ends 43 = .ok (.aload_n 0, 1) := by decide +kernel
theorem dX13_ends_44 : decode cX13_ends 44 = .ok (.getfield 26, 3) := by decide +kernel
theorem dX13_ends_47 : decode cX13_ends 47 = .ok (.iload_n 2, 1) := by decide +kernel
theorem dX13_ends_48 : decode cX13_ends 48 = .ok (.sipush 238, 3) := by decide +kernel
theorem dX13_ends_51 : decode cX13_ends 51 = .ok (.iadd, 1) := by decide +kernel
theorem dX13_ends_52 : decode cX13_ends 52 = .ok (.iaload, 1) := by decide +kernel
theorem dX13_ends_53 : decode cX13_ends 53 = .ok (.iastore, 1) := by decide +kernel
theorem dX13_ends_54 : decode cX13_ends 54 = .ok (.iinc 2 1, 3) := by decide +kernel
theorem dX13_ends_57 : decode cX13_ends 57 = .ok (.goto (-26), 3) := by decide +kernel
theorem dX13_ends_60 : decode cX13_ends 60 = .ok (.aload_n 0, 1) := by decide +kernel
theorem dX13_ends_61 : decode cX13_ends 61 = .ok (.dup, 1) := by decide +kernel
theorem dX13_ends_62 : decode cX13_ends 62 = .ok (.getfield 60, 3) := by decide +kernel
theorem dX13_ends_65 : decode cX13_ends 65 = .ok (.iconst 1, 1) := by decide +kernel
theorem dX13_ends_66 : decode cX13_ends 66 = .ok (.isub, 1) := by decide +kernel
theorem dX13_ends_67 : decode cX13_ends 67 = .ok (.putfield 60, 3) := by decide +kernel
theorem dX13_ends_70 : decode cX13_ends 70 = .ok (.iconst 0, 1) := by decide +kernel
theorem dX13_ends_71 : decode cX13_ends 71 = .ok (.istore_n 2, 1) := by decide +kernel
theorem dX13_ends_72 : decode cX13_ends 72 = .ok (.iload_n 2, 1) := by decide +kernel
theorem dX13_ends_73 : decode cX13_ends 73 = .ok (.sipush 238, 3) := by decide +kernel
theorem dX13_ends_76 : decode cX13_ends 76 = .ok (.if_icmp .ge 30, 3) := by decide +kernel
theorem dX13_ends_79 : decode cX13_ends 79 = .ok (.aload_n 0, 1) := by decide +kernel
theorem dX13_ends_80 : decode cX13_ends 80 = .ok (.getfield 26, 3) := by decide +kernel
theorem dX13_ends_83 : decode cX13_ends 83 = .ok (.aload_n 0, 1) := by decide +kernel
theorem dX13_ends_84 : decode cX13_ends 84 = .ok (.getfield 60, 3) := by decide +kernel
theorem dX13_ends_87 : decode cX13_ends 87 = .ok (.sipush 238, 3) := by decide +kernel
theorem dX13_ends_90 : decode cX13_ends 90 = .ok (.imul, 1) := by decide +kernel
theorem dX13_ends_91 : decode cX13_ends 91 = .ok (.iload_n 2, 1) := by decide +kernel
theorem dX13_ends_92 : decode cX13_ends 92 = .ok (.iadd, 1) := by decide +kernel
theorem dX13_ends_93 : decode cX13_ends 93 = .ok (.aload_n 0, 1) := by decide +kernel
theorem dX13_ends_94 : decode cX13_ends 94 = .ok (.getfield 20, 3) := by decide +kernel
theorem dX13_ends_97 : decode cX13_ends 97 = .ok (.iload_n 2, 1) := by decide +kernel
theorem dX13_ends_98 : decode cX13_ends 98 = .ok (.iaload, 1) := by decide +kernel
theorem dX13_ends_99 : decode cX13_ends 99 = .ok (.iastore, 1) := by decide +kernel
theorem dX13_ends_100 : decode cX13_ends 100 = .ok (.iinc 2 1, 3) := by decide +kernel
theorem dX13_ends_103 : decode cX13_ends 103 = .ok (.goto (-31), 3) := by decide +kernel
theorem dX13_ends_106 : decode cX13_ends 106 = .ok (.aload_n 0, 1) := by decide +kernel
theorem dX13_ends_107 : decode cX13_ends 107 = .ok (.dup, 1) := by decide +kernel
theorem dX13_ends_108 : decode cX13_ends 108 = .ok (.getfield 60, 3) := by decide +kernel
theorem dX13_ends_111 : decode cX13_ends 111 = .ok (.iconst 1, 1) := by decide +kernel
theorem dX13_ends_112 : decode cX13_ends 112 = .ok (.iadd, 1) := by decide +kernel
theorem dX13_ends_113 : decode cX13_ends 113 = .ok (.putfield 60, 3) := by decide +kernel
theorem dX13_ends_116 : decode cX13_ends 116 = .ok (.iload_n 1, 1) := by decide +kernel
theorem dX13_ends_117 : decode cX13_ends 117 = .ok (.ireturn, 1) := by decide +kernel
theorem dX13_isCell_0 : decode cX13_isCell 0 = .ok (.iload_n 0, 1) := by decide +kernel
theorem dX13_isCell_1 : decode cX13_isCell 1 = .ok (.iconst 0, 1) := by decide +kernel
theorem dX13_isCell_2 : decode cX13_isCell 2 = .ok (.bipush 8, 2) := by decide +kernel
theorem dX13_isCell_4 : decode cX13_isCell 4 = .ok (.invokestatic 63, 3) := by decide +kernel
theorem dX13_isCell_7 : decode cX13_isCell 7 = .ok (.ifCond .eq 17, 3) := by decide +kernel
theorem dX13_isCell_10 : decode cX13_isCell 10 = .ok (.iload_n 1, 1) := by decide +kernel
theorem dX13_isCell_11 : decode cX13_isCell 11 = .ok (.iconst 0, 1) := by decide +kernel
theorem dX13_isCell_12 : decode cX13_isCell 12 = .ok (.bipush 8, 2) := by decide +kernel
theorem dX13_isCell_14 : decode cX13_isCell 14 = .ok (.invokestatic 63, 3) := by decide +kernel
theorem dX13_isCell_17 : decode cX13_isCell 17 = .ok (.ifCond .eq 7, 3) := by decide +kernel
theorem dX13_isCell_20 : decode cX13_isCell 20 = .ok (.iconst 1, 1) := by decide +kernel
theorem dX13_isCell_21 : decode cX13_isCell 21 = .ok (.goto 4, 3) := by decide +kernel
theorem dX13_isCell_24 : decode cX13_isCell 24 = .ok (.iconst 0, 1) := by decide +kernel
theorem dX13_isCell_25 : decode cX13_isCell 25 = .ok (.ireturn, 1) := by decide +kernel
theorem dX13_cell_0 : decode cX13_cell 0 = .ok (.bipush 9, 2) := by decide +kernel
theorem dX13_cell_2 : decode cX13_cell 2 = .ok (.iload_n 1, 1) := by decide +kernel
theorem dX13_cell_3 : decode cX13_cell 3 = .ok (.imul, 1) := by decide +kernel
theorem dX13_cell_4 : decode cX13_cell 4 = .ok (.iload_n 0, 1) := by decide +kernel
theorem dX13_cell_5 : decode cX13_cell 5 = .ok (.iadd, 1) := by decide +kernel
theorem dX13_cell_6 : decode cX13_cell 6 = .ok (.ireturn, 1) := by decide +kernel
theorem dX13_image_0 : decode cX13_image 0 = .ok (.iload_n 0, 1) := by decide +kernel
theorem dX13_image_1 : decode cX13_image 1 = .ok (.iload_n 0, 1) := by decide +kernel
theorem dX13_image_2 : decode cX13_image 2 = .ok (.bipush 9, 2) := by decide +kernel
theorem dX13_image_4 : decode cX13_image 4 = .ok (.irem, 1) := by decide +kernel
theorem dX13_image_5 : decode cX13_image 5 = .ok (.isub, 1) := by decide +kernel
theorem dX13_image_6 : decode cX13_image 6 = .ok (.bipush 9, 2) := by decide +kernel
theorem dX13_image_8 : decode cX13_image 8 = .ok (.iadd, 1) := by decide +kernel
theorem dX13_image_9 : decode cX13_image 9 = .ok (.iconst 1, 1) := by decide +kernel
theorem dX13_image_10 : decode cX13_image 10 = .ok (.isub, 1) := by decide +kernel
theorem dX13_image_11 : decode cX13_image 11 = .ok (.iload_n 0, 1) := by decide +kernel
theorem dX13_image_12 : decode cX13_image 12 = .ok (.bipush 9, 2) := by decide +kernel
theorem dX13_image_14 : decode cX13_image 14 = .ok (.irem, 1) := by decide +kernel
theorem dX13_image_15 : decode cX13_image 15 = .ok (.isub, 1) := by decide +kernel
theorem dX13_image_16 : decode cX13_image 16 = .ok (.ireturn, 1) := by decide +kernel
theorem dX13_stands_0 : decode cX13_stands 0 = .ok (.aload_n 0, 1) := by decide +kernel
theorem dX13_stands_1 : decode cX13_stands 1 = .ok (.getfield 16, 3) := by decide +kernel
theorem dX13_stands_4 : decode cX13_stands 4 = .ok (.bipush 7, 2) := by decide +kernel
theorem dX13_stands_6 : decode cX13_stands 6 = .ok (.iload_n 1, 1) := by decide +kernel
theorem dX13_stands_7 : decode cX13_stands 7 = .ok (.iadd, 1) := by decide +kernel
theorem dX13_stands_8 : decode cX13_stands 8 = .ok (.iaload, 1) := by decide +kernel
theorem dX13_stands_9 : decode cX13_stands 9 = .ok (.iconst 1, 1) := by decide +kernel
theorem dX13_stands_10 : decode cX13_stands 10 = .ok (.if_icmp .ne 7, 3) := by decide +kernel
theorem dX13_stands_13 : decode cX13_stands 13 = .ok (.iconst 1, 1) := by decide +kernel
theorem dX13_stands_14 : decode cX13_stands 14 = .ok (.goto 4, 3) := by decide +kernel
theorem dX13_stands_17 : decode cX13_stands 17 = .ok (.iconst 0, 1) := by decide +kernel
theorem dX13_stands_18 : decode cX13_stands 18 = .ok (.ireturn, 1) := by decide +kernel
theorem dX13_isFree_0 : decode cX13_isFree 0 = .ok (.aload_n 0, 1) := by decide +kernel
theorem dX13_isFree_1 : decode cX13_isFree 1 = .ok (.iload_n 1, 1) := by decide +kernel
theorem dX13_isFree_2 : decode cX13_isFree 2 = .ok (.invokevirtual 67, 3) := by decide +kernel
theorem dX13_isFree_5 : decode cX13_isFree 5 = .ok (.aload_n 0, 1) := by decide +kernel
theorem dX13_isFree_6 : decode cX13_isFree 6 = .ok (.iload_n 1, 1) := by decide +kernel
theorem dX13_isFree_7 : decode cX13_isFree 7 = .ok (.invokestatic 71, 3) := by decide +kernel
theorem dX13_isFree_10 : decode cX13_isFree 10 = .ok (.invokevirtual 67, 3) := by decide +kernel
theorem dX13_isFree_13 : decode cX13_isFree 13 = .ok (.iadd, 1) := by decide +kernel
theorem dX13_isFree_14 : decode cX13_isFree 14 = .ok (.ifCond .ne 7, 3) := by decide +kernel
theorem dX13_isFree_17 : decode cX13_isFree 17 = .ok (.iconst 1, 1) := by decide +kernel
theorem dX13_isFree_18 : decode cX13_isFree 18 = .ok (.goto 4, 3) := by decide +kernel
theorem dX13_isFree_21 : decode cX13_isFree 21 = .ok (.iconst 0, 1) := by decide +kernel
theorem dX13_isFree_22 : decode cX13_isFree 22 = .ok (.ireturn, 1) := by decide +kernel
theorem dX13_of_0 : decode cX13_of 0 = .ok (.bipush 88, 2) := by decide +kernel
theorem dX13_of_2 : decode cX13_of 2 = .ok (.iconst 4, 1) := by decide +kernel
theorem dX13_of_3 : decode cX13_of 3 = .ok (.iload_n 0, 1) := by decide +kernel
theorem dX13_of_4 : decode cX13_of 4 = .ok (.imul, 1) := by decide +kernel
theorem dX13_of_5 : decode cX13_of 5 = .ok (.iadd, 1) := by decide +kernel
theorem dX13_of_6 : decode cX13_of 6 = .ok (.iload_n 1, 1) := by decide +kernel
theorem dX13_of_7 : decode cX13_of 7 = .ok (.iadd, 1) := by decide +kernel
theorem dX13_of_8 : decode cX13_of 8 = .ok (.ireturn, 1) := by decide +kernel
theorem dX13_where_0 : decode cX13_where 0 = .ok (.aload_n 0, 1) := by decide +kernel
theorem dX13_where_1 : decode cX13_where 1 = .ok (.getfield 16, 3) := by decide +kernel
theorem dX13_where_4 : decode cX13_where 4 = .ok (.iload_n 1, 1) := by decide +kernel
theorem dX13_where_5 : decode cX13_where 5 = .ok (.iconst 1, 1) := by decide +kernel
theorem dX13_where_6 : decode cX13_where 6 = .ok (.invokestatic 74, 3) := by decide +kernel
theorem dX13_where_9 : decode cX13_where 9 = .ok (.iaload, 1) := by decide +kernel
theorem dX13_where_10 : decode cX13_where 10 = .ok (.aload_n 0, 1) := by decide +kernel
theorem dX13_where_11 : decode cX13_where 11 = .ok (.getfield 16, 3) := by decide +kernel
theorem dX13_where_14 : decode cX13_where 14 = .ok (.iload_n 1, 1) := by decide +kernel
theorem dX13_where_15 : decode cX13_where 15 = .ok (.iconst 2, 1) := by decide +kernel
theorem dX13_where_16 : decode cX13_where 16 = .ok (.invokestatic 74, 3) := by decide +kernel
theorem dX13_where_19 : decode cX13_where 19 = .ok (.iaload, 1) := by decide +kernel
theorem dX13_where_20 : decode cX13_where 20 = .ok (.invokestatic 78, 3) := by decide +kernel
theorem dX13_where_23 : decode cX13_where 23 = .ok (.ireturn, 1) := by decide +kernel
theorem dX13_isTaken_0 : decode cX13_isTaken 0 = .ok (.iconst 0, 1) := by decide +kernel
theorem dX13_isTaken_1 : decode cX13_isTaken 1 = .ok (.istore_n 3, 1) := by decide +kernel
theorem dX13_isTaken_2 : decode cX13_isTaken 2 = .ok (.iload_n 3, 1) := by decide +kernel
theorem dX13_isTaken_3 : decode cX13_isTaken 3 = .ok (.aload_n 0, 1) := by decide +kernel
theorem dX13_isTaken_4 : decode cX13_isTaken 4 = .ok (.getfield 16, 3) := by decide +kernel
theorem dX13_isTaken_7 : decode cX13_isTaken 7 = .ok (.iconst 3, 1) := by decide +kernel
theorem dX13_isTaken_8 : decode cX13_isTaken 8 = .ok (.iaload, 1) := by decide +kernel
theorem dX13_isTaken_9 : decode cX13_isTaken 9 = .ok (.if_icmp .ge 37, 3) := by decide +kernel
theorem dX13_isTaken_12 : decode cX13_isTaken 12 = .ok (.iload_n 3, 1) := by decide +kernel
theorem dX13_isTaken_13 : decode cX13_isTaken 13 = .ok (.iload_n 2, 1) := by decide +kernel
theorem dX13_isTaken_14 : decode cX13_isTaken 14 = .ok (.if_icmp .eq 26, 3) := by decide +kernel
theorem dX13_isTaken_17 : decode cX13_isTaken 17 = .ok (.aload_n 0, 1) := by decide +kernel
theorem dX13_isTaken_18 : decode cX13_isTaken 18 = .ok (.iload_n 3, 1) := by decide +kernel
theorem dX13_isTaken_19 : decode cX13_isTaken 19 = .ok (.invokevirtual 81, 3) := by decide +kernel
theorem dX13_isTaken_22 : decode cX13_isTaken 22 = .ok (.iload_n 1, 1) := by decide +kernel
theorem dX13_isTaken_23 : decode cX13_isTaken 23 = .ok (.if_icmp .eq 15, 3) := by decide +kernel
theorem dX13_isTaken_26 : decode cX13_isTaken 26 = .ok (.aload_n 0, 1) := by decide +kernel
theorem dX13_isTaken_27 : decode cX13_isTaken 27 = .ok (.iload_n 3, 1) := by decide +kernel
theorem dX13_isTaken_28 : decode cX13_isTaken 28 = .ok (.invokevirtual 81, 3) := by decide +kernel
theorem dX13_isTaken_31 : decode cX13_isTaken 31 = .ok (.invokestatic 71, 3) := by decide +kernel
theorem dX13_isTaken_34 : decode cX13_isTaken 34 = .ok (.iload_n 1, 1) := by decide +kernel
theorem dX13_isTaken_35 : decode cX13_isTaken 35 = .ok (.if_icmp .ne 5, 3) := by decide +kernel
theorem dX13_isTaken_38 : decode cX13_isTaken 38 = .ok (.iconst 1, 1) := by decide +kernel
theorem dX13_isTaken_39 : decode cX13_isTaken 39 = .ok (.ireturn, 1) := by decide +kernel
theorem dX13_isTaken_40 : decode cX13_isTaken 40 = .ok (.iinc 3 1, 3) := by decide +kernel
theorem dX13_isTaken_43 : decode cX13_isTaken 43 = .ok (.goto (-41), 3) := by decide +kernel
theorem dX13_isTaken_46 : decode cX13_isTaken 46 = .ok (.iconst 0, 1) := by decide +kernel
theorem dX13_isTaken_47 : decode cX13_isTaken 47 = .ok (.ireturn, 1) := by decide +kernel
theorem dX13_find_0 : decode cX13_find 0 = .ok (.iconst 0, 1) := by decide +kernel
theorem dX13_find_1 : decode cX13_find 1 = .ok (.istore_n 2, 1) := by decide +kernel
theorem dX13_find_2 : decode cX13_find 2 = .ok (.iload_n 2, 1) := by decide +kernel
theorem dX13_find_3 : decode cX13_find 3 = .ok (.aload_n 0, 1) := by decide +kernel
theorem dX13_find_4 : decode cX13_find 4 = .ok (.getfield 16, 3) := by decide +kernel
theorem dX13_find_7 : decode cX13_find 7 = .ok (.iconst 3, 1) := by decide +kernel
theorem dX13_find_8 : decode cX13_find 8 = .ok (.iaload, 1) := by decide +kernel
theorem dX13_find_9 : decode cX13_find 9 = .ok (.if_icmp .ge 25, 3) := by decide +kernel
theorem dX13_find_12 : decode cX13_find 12 = .ok (.aload_n 0, 1) := by decide +kernel
theorem dX13_find_13 : decode cX13_find 13 = .ok (.getfield 16, 3) := by decide +kernel
theorem dX13_find_16 : decode cX13_find 16 = .ok (.iload_n 2, 1) := by decide +kernel
theorem dX13_find_17 : decode cX13_find 17 = .ok (.iconst 0, 1) := by decide +kernel
theorem dX13_find_18 : decode cX13_find 18 = .ok (.invokestatic 74, 3) := by decide +kernel
theorem dX13_find_21 : decode cX13_find 21 = .ok (.iaload, 1) := by decide +kernel
theorem dX13_find_22 : decode cX13_find 22 = .ok (.iload_n 1, 1) := by decide +kernel
theorem dX13_find_23 : decode cX13_find 23 = .ok (.if_icmp .ne 5, 3) := by decide +kernel
theorem dX13_find_26 : decode cX13_find 26 = .ok (.iload_n 2, 1) := by decide +kernel
theorem dX13_find_27 : decode cX13_find 27 = .ok (.ireturn, 1) := by decide +kernel
theorem dX13_find_28 : decode cX13_find 28 = .ok (.iinc 2 1, 3) := by decide +kernel
theorem dX13_find_31 : decode cX13_find 31 = .ok (.goto (-29), 3) := by decide +kernel
theorem dX13_find_34 : decode cX13_find 34 = .ok (.iconst (-1), 1) := by decide +kernel
theorem dX13_find_35 : decode cX13_find 35 = .ok (.ireturn, 1) := by decide +kernel
theorem dX13_isPlan_0 : decode cX13_isPlan 0 = .ok (.iload_n 0, 1) := by decide +kernel
theorem dX13_isPlan_1 : decode cX13_isPlan 1 = .ok (.iconst 0, 1) := by decide +kernel
theorem dX13_isPlan_2 : decode cX13_isPlan 2 = .ok (.iconst 5, 1) := by decide +kernel
theorem dX13_isPlan_3 : decode cX13_isPlan 3 = .ok (.invokestatic 63, 3) := by decide +kernel
theorem dX13_isPlan_6 : decode cX13_isPlan 6 = .ok (.ireturn, 1) := by decide +kernel
theorem dX13_at_0 : decode cX13_at 0 = .ok (.bipush 110, 2) := by decide +kernel
theorem dX13_at_2 : decode cX13_at 2 = .ok (.bipush 20, 2) := by decide +kernel
theorem dX13_at_4 : decode cX13_at 4 = .ok (.iload_n 0, 1) := by decide +kernel
theorem dX13_at_5 : decode cX13_at 5 = .ok (.imul, 1) := by decide +kernel
theorem dX13_at_6 : decode cX13_at 6 = .ok (.iadd, 1) := by decide +kernel
theorem dX13_at_7 : decode cX13_at 7 = .ok (.iload_n 1, 1) := by decide +kernel
theorem dX13_at_8 : decode cX13_at 8 = .ok (.iadd, 1) := by decide +kernel
theorem dX13_at_9 : decode cX13_at 9 = .ok (.ireturn, 1) := by decide +kernel
theorem dX13_grows_0 : decode cX13_grows 0 = .ok (.iload_n 1, 1) := by decide +kernel
theorem dX13_grows_1 : decode cX13_grows 1 = .ok (.iload_n 2, 1) := by decide +kernel
theorem dX13_grows_2 : decode cX13_grows 2 = .ok (.invokestatic 84, 3) := by decide +kernel
theorem dX13_grows_5 : decode cX13_grows 5 = .ok (.ifCond .ne 9, 3) := by decide +kernel
theorem dX13_grows_8 : decode cX13_grows 8 = .ok (.aload_n 0, 1) := by decide +kernel
theorem dX13_grows_9 : decode cX13_grows 9 = .ok (.iconst 1, 1) := by decide +kernel
theorem dX13_grows_10 : decode cX13_grows 10 = .ok (.invokevirtual 88, 3) := by decide +kernel
theorem dX13_grows_13 : decode cX13_grows 13 = .ok (.ireturn, 1) := by decide +kernel
theorem dX13_grows_14 : decode cX13_grows 14 = .ok (.aload_n 0, 1) := by decide +kernel
theorem dX13_grows_15 : decode cX13_grows 15 = .ok (.getfield 16, 3) := by decide +kernel
theorem dX13_grows_18 : decode cX13_grows 18 = .ok (.bipush 7, 2) := by decide +kernel
theorem dX13_grows_20 : decode cX13_grows 20 = .ok (.iload_n 1, 1) := by decide +kernel
theorem dX13_grows_21 : decode cX13_grows 21 = .ok (.iload_n 2, 1) := by decide +kernel
theorem dX13_grows_22 : decode cX13_grows 22 = .ok (.invokestatic 78, 3) := by decide +kernel
theorem dX13_grows_25 : decode cX13_grows 25 = .ok (.iadd, 1) := by decide +kernel
theorem dX13_grows_26 : decode cX13_grows 26 = .ok (.iaload, 1) := by decide +kernel
theorem dX13_grows_27 : decode cX13_grows 27 = .ok (.ifCond .ne 27, 3) := by decide +kernel
theorem dX13_grows_30 : decode cX13_grows 30 = .ok (.aload_n 0, 1) := by decide +kernel
theorem dX13_grows_31 : decode cX13_grows 31 = .ok (.iload_n 1, 1) := by decide +kernel
theorem dX13_grows_32 : decode cX13_grows 32 = .ok (.iload_n 2, 1) := by decide +kernel
theorem dX13_grows_33 : decode cX13_grows 33 = .ok (.invokestatic 78, 3) := by decide +kernel
theorem dX13_grows_36 : decode cX13_grows 36 = .ok (.iconst (-1), 1) := by decide +kernel
theorem dX13_grows_37 : decode cX13_grows 37 = .ok (.invokevirtual 91, 3) := by decide +kernel
theorem dX13_grows_40 : decode cX13_grows 40 = .ok (.ifCond .ne 14, 3) := by decide +kernel
theorem dX13_grows_43 : decode cX13_grows 43 = .ok (.aload_n 0, 1) := by decide +kernel
theorem dX13_grows_44 : decode cX13_grows 44 = .ok (.getfield 16, 3) := by decide +kernel
theorem dX13_grows_47 : decode cX13_grows 47 = .ok (.iconst 0, 1) := by decide +kernel
theorem dX13_grows_48 : decode cX13_grows 48 = .ok (.iaload, 1) := by decide +kernel
theorem dX13_grows_49 : decode cX13_grows 49 = .ok (.bipush 30, 2) := by decide +kernel
theorem dX13_grows_51 : decode cX13_grows 51 = .ok (.if_icmp .ne 9, 3) := by decide +kernel
theorem dX13_grows_54 : decode cX13_grows 54 = .ok (.aload_n 0, 1) := by decide +kernel
theorem dX13_grows_55 : decode cX13_grows 55 = .ok (.iconst 2, 1) := by decide +kernel
theorem dX13_grows_56 : decode cX13_grows 56 = .ok (.invokevirtual 88, 3) := by decide +kernel
theorem dX13_grows_59 : decode cX13_grows 59 = .ok (.ireturn, 1) := by decide +kernel
theorem dX13_grows_60 : decode cX13_grows 60 = .ok (.aload_n 0, 1) := by decide +kernel
theorem dX13_grows_61 : decode cX13_grows 61 = .ok (.getfield 16, 3) := by decide +kernel
theorem dX13_grows_64 : decode cX13_grows 64 = .ok (.bipush 7, 2) := by decide +kernel
theorem dX13_grows_66 : decode cX13_grows 66 = .ok (.iload_n 1, 1) := by decide +kernel
theorem dX13_grows_67 : decode cX13_grows 67 = .ok (.iload_n 2, 1) := by decide +kernel
theorem dX13_grows_68 : decode cX13_grows 68 = .ok (.invokestatic 78, 3) := by decide +kernel
theorem dX13_grows_71 : decode cX13_grows 71 = .ok (.iadd, 1) := by decide +kernel
theorem dX13_grows_72 : decode cX13_grows 72 = .ok (.iconst 1, 1) := by decide +kernel
theorem dX13_grows_73 : decode cX13_grows 73 = .ok (.iastore, 1) := by decide +kernel
theorem dX13_grows_74 : decode cX13_grows 74 = .ok (.aload_n 0, 1) := by decide +kernel
theorem dX13_grows_75 : decode cX13_grows 75 = .ok (.getfield 16, 3) := by decide +kernel
theorem dX13_grows_78 : decode cX13_grows 78 = .ok (.iconst 0, 1) := by decide +kernel
theorem dX13_grows_79 : decode cX13_grows 79 = .ok (.dup2, 1) := by decide +kernel
theorem dX13_grows_80 : decode cX13_grows 80 = .ok (.iaload, 1) := by decide +kernel
theorem dX13_grows_81 : decode cX13_grows 81 = .ok (.iconst 1, 1) := by decide +kernel
theorem dX13_grows_82 : decode cX13_grows 82 = .ok (.iadd, 1) := by decide +kernel
theorem dX13_grows_83 : decode cX13_grows 83 = .ok (.iastore, 1) := by decide +kernel
theorem dX13_grows_84 : decode cX13_grows 84 = .ok (.aload_n 0, 1) := by decide +kernel
theorem dX13_grows_85 : decode cX13_grows 85 = .ok (.getfield 16, 3) := by decide +kernel
theorem dX13_grows_88 : decode cX13_grows 88 = .ok (.iconst 0, 1) := by decide +kernel
theorem dX13_grows_89 : decode cX13_grows 89 = .ok (.iaload, 1) := by decide +kernel
theorem dX13_grows_90 : decode cX13_grows 90 = .ok (.ireturn, 1) := by decide +kernel
theorem dX13_addReed_0 : decode cX13_addReed 0 = .ok (.aload_n 0, 1) := by decide +kernel
theorem dX13_addReed_1 : decode cX13_addReed 1 = .ok (.invokevirtual 94, 3) := by decide +kernel
theorem dX13_addReed_4 : decode cX13_addReed 4 = .ok (.aload_n 0, 1) := by decide +kernel
theorem dX13_addReed_5 : decode cX13_addReed 5 = .ok (.aload_n 0, 1) := by decide +kernel
theorem dX13_addReed_6 : decode cX13_addReed 6 = .ok (.iload_n 1, 1) := by decide +kernel
theorem dX13_addReed_7 : decode cX13_addReed 7 = .ok (.iload_n 2, 1) := by decide +kernel
theorem dX13_addReed_8 : decode cX13_addReed 8 = .ok (.invokevirtual 97, 3) := by decide +kernel
theorem dX13_addReed_11 : decode cX13_addReed 11 = .ok (.invokevirtual 100, 3) := by decide +kernel
theorem dX13_addReed_14 : decode cX13_addReed 14 = .ok (.ireturn, 1) := by decide +kernel
theorem dX13_broken_0 : decode cX13_broken 0 = .ok (.iconst 0, 1) := by decide +kernel
theorem dX13_broken_1 : decode cX13_broken 1 = .ok (.istore_n 1, 1) := by decide +kernel
theorem dX13_broken_2 : decode cX13_broken 2 = .ok (.iconst 0, 1) := by decide +kernel
theorem dX13_broken_3 : decode cX13_broken 3 = .ok (.istore_n 2, 1) := by decide +kernel
theorem dX13_broken_4 : decode cX13_broken 4 = .ok (.iload_n 2, 1) := by decide +kernel
theorem dX13_broken_5 : decode cX13_broken 5 = .ok (.bipush 81, 2) := by decide +kernel
theorem dX13_broken_7 : decode cX13_broken 7 = .ok (.if_icmp .ge 30, 3) := by decide +kernel
theorem dX13_broken_10 : decode cX13_broken 10 = .ok (.iload_n 1, 1) := by decide +kernel
theorem dX13_broken_11 : decode cX13_broken 11 = .ok (.aload_n 0, 1) := by decide +kernel
theorem dX13_broken_12 : decode cX13_broken 12 = .ok (.getfield 16, 3) := by decide +kernel
theorem dX13_broken_15 : decode cX13_broken 15 = .ok (.bipush 7, 2) := by decide +kernel
theorem dX13_broken_17 : decode cX13_broken 17 = .ok (.iload_n 2, 1) := by decide +kernel
theorem dX13_broken_18 : decode cX13_broken 18 = .ok (.iadd, 1) := by decide +kernel
theorem dX13_broken_19 : decode cX13_broken 19 = .ok (.iaload, 1) := by decide +kernel
theorem dX13_broken_20 : decode cX13_broken 20 = .ok (.iconst 2, 1) := by decide +kernel
theorem dX13_broken_21 : decode cX13_broken 21 = .ok (.if_icmp .ne 7, 3) := by decide +kernel
theorem dX13_broken_24 : decode cX13_broken 24 = .ok (.iconst 1, 1) := by decide +kernel
theorem dX13_broken_25 : decode cX13_broken 25 = .ok (.goto 4, 3) := by decide +kernel
theorem dX13_broken_28 : decode cX13_broken 28 = .ok (.iconst 0, 1) := by decide +kernel
theorem dX13_broken_29 : decode cX13_broken 29 = .ok (.iadd, 1) := by decide +kernel
theorem dX13_broken_30 : decode cX13_broken 30 = .ok (.istore_n 1, 1) := by decide +kernel
theorem dX13_broken_31 : decode cX13_broken 31 = .ok (.iinc 2 1, 3) := by decide +kernel
theorem dX13_broken_34 : decode cX13_broken 34 = .ok (.goto (-30), 3) := by decide +kernel
theorem dX13_broken_37 : decode cX13_broken 37 = .ok (.iload_n 1, 1) := by decide +kernel
theorem dX13_broken_38 : decode cX13_broken 38 = .ok (.ireturn, 1) := by decide +kernel
theorem dX13_breaks_0 : decode cX13_breaks 0 = .ok (.iload_n 1, 1) := by decide +kernel
theorem dX13_breaks_1 : decode cX13_breaks 1 = .ok (.iload_n 2, 1) := by decide +kernel
theorem dX13_breaks_2 : decode cX13_breaks 2 = .ok (.invokestatic 84, 3) := by decide +kernel
theorem dX13_breaks_5 : decode cX13_breaks 5 = .ok (.ifCond .ne 9, 3) := by decide +kernel
theorem dX13_breaks_8 : decode cX13_breaks 8 = .ok (.aload_n 0, 1) := by decide +kernel
theorem dX13_breaks_9 : decode cX13_breaks 9 = .ok (.iconst 1, 1) := by decide +kernel
theorem dX13_breaks_10 : decode cX13_breaks 10 = .ok (.invokevirtual 88, 3) := by decide +kernel
theorem dX13_breaks_13 : decode cX13_breaks 13 = .ok (.ireturn, 1) := by decide +kernel
theorem dX13_breaks_14 : decode cX13_breaks 14 = .ok (.aload_n 0, 1) := by decide +kernel
theorem dX13_breaks_15 : decode cX13_breaks 15 = .ok (.getfield 16, 3) := by decide +kernel
theorem dX13_breaks_18 : decode cX13_breaks 18 = .ok (.bipush 7, 2) := by decide +kernel
theorem dX13_breaks_20 : decode cX13_breaks 20 = .ok (.iload_n 1, 1) := by decide +kernel
theorem dX13_breaks_21 : decode cX13_breaks 21 = .ok (.iload_n 2, 1) := by decide +kernel
theorem dX13_breaks_22 : decode cX13_breaks 22 = .ok (.invokestatic 78, 3) := by decide +kernel
theorem dX13_breaks_25 : decode cX13_breaks 25 = .ok (.iadd, 1) := by decide +kernel
theorem dX13_breaks_26 : decode cX13_breaks 26 = .ok (.iaload, 1) := by decide +kernel
theorem dX13_breaks_27 : decode cX13_breaks 27 = .ok (.istore_n 3, 1) := by decide +kernel
theorem dX13_breaks_28 : decode cX13_breaks 28 = .ok (.iload_n 3, 1) := by decide +kernel
theorem dX13_breaks_29 : decode cX13_breaks 29 = .ok (.ifCond .ne 9, 3) := by decide +kernel
theorem dX13_breaks_32 : decode cX13_breaks 32 = .ok (.aload_n 0, 1) := by decide +kernel
theorem dX13_breaks_33 : decode cX13_breaks 33 = .ok (.iconst 2, 1) := by decide +kernel
theorem dX13_breaks_34 : decode cX13_breaks 34 = .ok (.invokevirtual 88, 3) := by decide +kernel
theorem dX13_breaks_37 : decode cX13_breaks 37 = .ok (.ireturn, 1) := by decide +kernel
theorem dX13_breaks_38 : decode cX13_breaks 38 = .ok (.iload_n 3, 1) := by decide +kernel
theorem dX13_breaks_39 : decode cX13_breaks 39 = .ok (.iconst 2, 1) := by decide +kernel
theorem dX13_breaks_40 : decode cX13_breaks 40 = .ok (.if_icmp .ne 9, 3) := by decide +kernel
theorem dX13_breaks_43 : decode cX13_breaks 43 = .ok (.aload_n 0, 1) := by decide +kernel
theorem dX13_breaks_44 : decode cX13_breaks 44 = .ok (.iconst 3, 1) := by decide +kernel
theorem dX13_breaks_45 : decode cX13_breaks 45 = .ok (.invokevirtual 88, 3) := by decide +kernel
theorem dX13_breaks_48 : decode cX13_breaks 48 = .ok (.ireturn, 1) := by decide +kernel
theorem dX13_breaks_49 : decode cX13_breaks 49 = .ok (.aload_n 0, 1) := by decide +kernel
theorem dX13_breaks_50 : decode cX13_breaks 50 = .ok (.getfield 16, 3) := by decide +kernel
theorem dX13_breaks_53 : decode cX13_breaks 53 = .ok (.bipush 7, 2) := by decide +kernel
theorem dX13_breaks_55 : decode cX13_breaks 55 = .ok (.iload_n 1, 1) := by decide +kernel
theorem dX13_breaks_56 : decode cX13_breaks 56 = .ok (.iload_n 2, 1) := by decide +kernel
theorem dX13_breaks_57 : decode cX13_breaks 57 = .ok (.invokestatic 78, 3) := by decide +kernel
theorem dX13_breaks_60 : decode cX13_breaks 60 = .ok (.iadd, 1) := by decide +kernel
theorem dX13_breaks_61 : decode cX13_breaks 61 = .ok (.iconst 2, 1) := by decide +kernel
theorem dX13_breaks_62 : decode cX13_breaks 62 = .ok (.iastore, 1) := by decide +kernel
theorem dX13_breaks_63 : decode cX13_breaks 63 = .ok (.aload_n 0, 1) := by decide +kernel
theorem dX13_breaks_64 : decode cX13_breaks 64 = .ok (.invokevirtual 103, 3) := by decide +kernel
theorem dX13_breaks_67 : decode cX13_breaks 67 = .ok (.ireturn, 1) := by decide +kernel
theorem dX13_breakReed_0 : decode cX13_breakReed 0 = .ok (.aload_n 0, 1) := by decide +kernel
theorem dX13_breakReed_1 : decode cX13_breakReed 1 = .ok (.invokevirtual 94, 3) := by decide +kernel
theorem dX13_breakReed_4 : decode cX13_breakReed 4 = .ok (.aload_n 0, 1) := by decide +kernel
theorem dX13_breakReed_5 : decode cX13_breakReed 5 = .ok (.aload_n 0, 1) := by decide +kernel
theorem dX13_breakReed_6 : decode cX13_breakReed 6 = .ok (.iload_n 1, 1) := by decide +kernel
theorem dX13_breakReed_7 : decode cX13_breakReed 7 = .ok (.iload_n 2, 1) := by decide +kernel
theorem dX13_breakReed_8 : decode cX13_breakReed 8 = .ok (.invokevirtual 107, 3) := by decide +kernel
theorem dX13_breakReed_11 : decode cX13_breakReed 11 = .ok (.invokevirtual 100, 3) := by decide +kernel
theorem dX13_breakReed_14 : decode cX13_breakReed 14 = .ok (.ireturn, 1) := by decide +kernel
theorem dX13_clears_0 : decode cX13_clears 0 = .ok (.iload_n 1, 1) := by decide +kernel
theorem dX13_clears_1 : decode cX13_clears 1 = .ok (.iload_n 2, 1) := by decide +kernel
theorem dX13_clears_2 : decode cX13_clears 2 = .ok (.invokestatic 84, 3) := by decide +kernel
theorem dX13_clears_5 : decode cX13_clears 5 = .ok (.ifCond .ne 9, 3) := by decide +kernel
theorem dX13_clears_8 : decode cX13_clears 8 = .ok (.aload_n 0, 1) := by decide +kernel
theorem dX13_clears_9 : decode cX13_clears 9 = .ok (.iconst 1, 1) := by decide +kernel
theorem dX13_clears_10 : decode cX13_clears 10 = .ok (.invokevirtual 88, 3) := by decide +kernel
theorem dX13_clears_13 : decode cX13_clears 13 = .ok (.ireturn, 1) := by decide +kernel
theorem dX13_clears_14 : decode cX13_clears 14 = .ok (.aload_n 0, 1) := by decide +kernel
theorem dX13_clears_15 : decode cX13_clears 15 = .ok (.getfield 16, 3) := by decide +kernel
theorem dX13_clears_18 : decode cX13_clears 18 = .ok (.bipush 7, 2) := by decide +kernel
theorem dX13_clears_20 : decode cX13_clears 20 = .ok (.iload_n 1, 1) := by decide +kernel
theorem dX13_clears_21 : decode cX13_clears 21 = .ok (.iload_n 2, 1) := by decide +kernel
theorem dX13_clears_22 : decode cX13_clears 22 = .ok (.invokestatic 78, 3) := by decide +kernel
theorem dX13_clears_25 : decode cX13_clears 25 = .ok (.iadd, 1) := by decide +kernel
theorem dX13_clears_26 : decode cX13_clears 26 = .ok (.iaload, 1) := by decide +kernel
theorem dX13_clears_27 : decode cX13_clears 27 = .ok (.ifCond .ne 9, 3) := by decide +kernel
theorem dX13_clears_30 : decode cX13_clears 30 = .ok (.aload_n 0, 1) := by decide +kernel
theorem dX13_clears_31 : decode cX13_clears 31 = .ok (.iconst 2, 1) := by decide +kernel
theorem dX13_clears_32 : decode cX13_clears 32 = .ok (.invokevirtual 88, 3) := by decide +kernel
theorem dX13_clears_35 : decode cX13_clears 35 = .ok (.ireturn, 1) := by decide +kernel
theorem dX13_clears_36 : decode cX13_clears 36 = .ok (.aload_n 0, 1) := by decide +kernel
theorem dX13_clears_37 : decode cX13_clears 37 = .ok (.getfield 16, 3) := by decide +kernel
theorem dX13_clears_40 : decode cX13_clears 40 = .ok (.bipush 7, 2) := by decide +kernel
theorem dX13_clears_42 : decode cX13_clears 42 = .ok (.iload_n 1, 1) := by decide +kernel
theorem dX13_clears_43 : decode cX13_clears 43 = .ok (.iload_n 2, 1) := by decide +kernel
theorem dX13_clears_44 : decode cX13_clears 44 = .ok (.invokestatic 78, 3) := by decide +kernel
theorem dX13_clears_47 : decode cX13_clears 47 = .ok (.iadd, 1) := by decide +kernel
theorem dX13_clears_48 : decode cX13_clears 48 = .ok (.iconst 0, 1) := by decide +kernel
theorem dX13_clears_49 : decode cX13_clears 49 = .ok (.iastore, 1) := by decide +kernel
theorem dX13_clears_50 : decode cX13_clears 50 = .ok (.aload_n 0, 1) := by decide +kernel
theorem dX13_clears_51 : decode cX13_clears 51 = .ok (.getfield 16, 3) := by decide +kernel
theorem dX13_clears_54 : decode cX13_clears 54 = .ok (.iconst 0, 1) := by decide +kernel
theorem dX13_clears_55 : decode cX13_clears 55 = .ok (.dup2, 1) := by decide +kernel
theorem dX13_clears_56 : decode cX13_clears 56 = .ok (.iaload, 1) := by decide +kernel
theorem dX13_clears_57 : decode cX13_clears 57 = .ok (.iconst 1, 1) := by decide +kernel
theorem dX13_clears_58 : decode cX13_clears 58 = .ok (.isub, 1) := by decide +kernel
theorem dX13_clears_59 : decode cX13_clears 59 = .ok (.iastore, 1) := by decide +kernel
theorem dX13_clears_60 : decode cX13_clears 60 = .ok (.aload_n 0, 1) := by decide +kernel
theorem dX13_clears_61 : decode cX13_clears 61 = .ok (.getfield 16, 3) := by decide +kernel
theorem dX13_clears_64 : decode cX13_clears 64 = .ok (.iconst 0, 1) := by decide +kernel
theorem dX13_clears_65 : decode cX13_clears 65 = .ok (.iaload, 1) := by decide +kernel
theorem dX13_clears_66 : decode cX13_clears 66 = .ok (.ireturn, 1) := by decide +kernel
theorem dX13_removeReed_0 : decode cX13_removeReed 0 = .ok (.aload_n 0, 1) := by decide +kernel
theorem dX13_removeReed_1 : decode cX13_removeReed 1 = .ok (.invokevirtual 94, 3) := by decide +kernel
theorem dX13_removeReed_4 : decode cX13_removeReed 4 = .ok (.aload_n 0, 1) := by decide +kernel
theorem dX13_removeReed_5 : decode cX13_removeReed 5 = .ok (.aload_n 0, 1) := by decide +kernel
theorem dX13_removeReed_6 : decode cX13_removeReed 6 = .ok (.iload_n 1, 1) := by decide +kernel
theorem dX13_removeReed_7 : decode cX13_removeReed 7 = .ok (.iload_n 2, 1) := by decide +kernel
theorem dX13_removeReed_8 : decode cX13_removeReed 8 = .ok (.invokevirtual 110, 3) := by decide +kernel
theorem dX13_removeReed_11 : decode cX13_removeReed 11 = .ok (.invokevirtual 100, 3) := by decide +kernel
theorem dX13_removeReed_14 : decode cX13_removeReed 14 = .ok (.ireturn, 1) := by decide +kernel
theorem dX13_hasReed_0 : decode cX13_hasReed 0 = .ok (.aload_n 0, 1) := by decide +kernel
theorem dX13_hasReed_1 : decode cX13_hasReed 1 = .ok (.iload_n 1, 1) := by decide +kernel
theorem dX13_hasReed_2 : decode cX13_hasReed 2 = .ok (.iload_n 2, 1) := by decide +kernel
theorem dX13_hasReed_3 : decode cX13_hasReed 3 = .ok (.invokestatic 84, 3) := by decide +kernel
theorem dX13_hasReed_6 : decode cX13_hasReed 6 = .ok (.ifCond .eq 7, 3) := by decide +kernel
theorem dX13_hasReed_9 : decode cX13_hasReed 9 = .ok (.iconst 0, 1) := by decide +kernel
theorem dX13_hasReed_10 : decode cX13_hasReed 10 = .ok (.goto 4, 3) := by decide +kernel
theorem dX13_hasReed_13 : decode cX13_hasReed 13 = .ok (.iconst 1, 1) := by decide +kernel
theorem dX13_hasReed_14 : decode cX13_hasReed 14 = .ok (.putfield 53, 3) := by decide +kernel
theorem dX13_hasReed_17 : decode cX13_hasReed 17 = .ok (.aload_n 0, 1) := by decide +kernel
theorem dX13_hasReed_18 : decode cX13_hasReed 18 = .ok (.getfield 53, 3) := by decide +kernel
theorem dX13_hasReed_21 : decode cX13_hasReed 21 = .ok (.ifCond .ne 23, 3) := by decide +kernel
theorem dX13_hasReed_24 : decode cX13_hasReed 24 = .ok (.aload_n 0, 1) := by decide +kernel
theorem dX13_hasReed_25 : decode cX13_hasReed 25 = .ok (.getfield 16, 3) := by decide +kernel
theorem dX13_hasReed_28 : decode cX13_hasReed 28 = .ok (.bipush 7, 2) := by decide +kernel
theorem dX13_hasReed_30 : decode cX13_hasReed 30 = .ok (.iload_n 1, 1) := by decide +kernel
theorem dX13_hasReed_31 : decode cX13_hasReed 31 = .ok (.iload_n 2, 1) := by decide +kernel
theorem dX13_hasReed_32 : decode cX13_hasReed 32 = .ok (.invokestatic 78, 3) := by decide +kernel
theorem dX13_hasReed_35 : decode cX13_hasReed 35 = .ok (.iadd, 1) := by decide +kernel
theorem dX13_hasReed_36 : decode cX13_hasReed 36 = .ok (.iaload, 1) := by decide +kernel
theorem dX13_hasReed_37 : decode cX13_hasReed 37 = .ok (.ifCond .eq 7, 3) := by decide +kernel
theorem dX13_hasReed_40 : decode cX13_hasReed 40 = .ok (.iconst 1, 1) := by decide +kernel
theorem dX13_hasReed_41 : decode cX13_hasReed 41 = .ok (.goto 4, 3) := by decide +kernel
theorem dX13_hasReed_44 : decode cX13_hasReed 44 = .ok (.iconst 0, 1) := by decide +kernel
theorem dX13_hasReed_45 : decode cX13_hasReed 45 = .ok (.ireturn, 1) := by decide +kernel
theorem dX13_isPassable_0 : decode cX13_isPassable 0 = .ok (.aload_n 0, 1) := by decide +kernel
theorem dX13_isPassable_1 : decode cX13_isPassable 1 = .ok (.iload_n 1, 1) := by decide +kernel
theorem dX13_isPassable_2 : decode cX13_isPassable 2 = .ok (.iload_n 2, 1) := by decide +kernel
theorem dX13_isPassable_3 : decode cX13_isPassable 3 = .ok (.invokestatic 84, 3) := by decide +kernel
theorem dX13_isPassable_6 : decode cX13_isPassable 6 = .ok (.ifCond .eq 7, 3) := by decide +kernel
theorem dX13_isPassable_9 : decode cX13_isPassable 9 = .ok (.iconst 0, 1) := by decide +kernel
theorem dX13_isPassable_10 : decode cX13_isPassable 10 = .ok (.goto 4, 3) := by decide +kernel
theorem dX13_isPassable_13 : decode cX13_isPassable 13 = .ok (.iconst 1, 1) := by decide +kernel
theorem dX13_isPassable_14 : decode cX13_isPassable 14 = .ok (.putfield 53, 3) := by decide +kernel
theorem dX13_isPassable_17 : decode cX13_isPassable 17 = .ok (.aload_n 0, 1) := by decide +kernel
theorem dX13_isPassable_18 : decode cX13_isPassable 18 = .ok (.getfield 53, 3) := by decide +kernel
theorem dX13_isPassable_21 : decode cX13_isPassable 21 = .ok (.ifCond .ne 19, 3) := by decide +kernel
theorem dX13_isPassable_24 : decode cX13_isPassable 24 = .ok (.aload_n 0, 1) := by decide +kernel
theorem dX13_isPassable_25 : decode cX13_isPassable 25 = .ok (.iload_n 1, 1) := by decide +kernel
theorem dX13_isPassable_26 : decode cX13_isPassable 26 = .ok (.iload_n 2, 1) := by decide +kernel
theorem dX13_isPassable_27 : decode cX13_isPassable 27 = .ok (.invokestatic 78, 3) := by decide +kernel
theorem dX13_isPassable_30 : decode cX13_isPassable 30 = .ok (.invokevirtual 113, 3) := by decide +kernel
theorem dX13_isPassable_33 : decode cX13_isPassable 33 = .ok (.ifCond .eq 7, 3) := by decide +kernel
theorem dX13_isPassable_36 : decode cX13_isPassable 36 = .ok (.iconst 1, 1) := by decide +kernel
theorem dX13_isPassable_37 : decode cX13_isPassable 37 = .ok (.goto 4, 3) := by decide +kernel
theorem dX13_isPassable_40 : decode cX13_isPassable 40 = .ok (.iconst 0, 1) := by decide +kernel
theorem dX13_isPassable_41 : decode cX13_isPassable 41 = .ok (.ireturn, 1) := by decide +kernel
theorem dX13_tells_0 : decode cX13_tells 0 = .ok (.aload_n 0, 1) := by decide +kernel
theorem dX13_tells_1 : decode cX13_tells 1 = .ok (.iconst 0, 1) := by decide +kernel
theorem dX13_tells_2 : decode cX13_tells 2 = .ok (.putfield 53, 3) := by decide +kernel
theorem dX13_tells_5 : decode cX13_tells 5 = .ok (.aload_n 0, 1) := by decide +kernel
theorem dX13_tells_6 : decode cX13_tells 6 = .ok (.getfield 16, 3) := by decide +kernel
theorem dX13_tells_9 : decode cX13_tells 9 = .ok (.iload_n 1, 1) := by decide +kernel
theorem dX13_tells_10 : decode cX13_tells 10 = .ok (.iaload, 1) := by decide +kernel
theorem dX13_tells_11 : decode cX13_tells 11 = .ok (.ireturn, 1) := by decide +kernel
theorem dX13_reedCount_0 : decode cX13_reedCount 0 = .ok (.aload_n 0, 1) := by decide +kernel
theorem dX13_reedCount_1 : decode cX13_reedCount 1 = .ok (.iconst 0, 1) := by decide +kernel
theorem dX13_reedCount_2 : decode cX13_reedCount 2 = .ok (.invokevirtual 117, 3) := by decide +kernel
theorem dX13_reedCount_5 : decode cX13_reedCount 5 = .ok (.ireturn, 1) := by decide +kernel
theorem dX13_brokenCount_0 : decode cX13_brokenCount 0 = .ok (.aload_n 0, 1) := by decide +kernel
theorem dX13_brokenCount_1 : decode cX13_brokenCount 1 = .ok (.iconst 0, 1) := by decide +kernel
theorem dX13_brokenCount_2 : decode cX13_brokenCount 2 = .ok (.putfield 53, 3) := by decide +kernel
theorem dX13_brokenCount_5 : decode cX13_brokenCount 5 = .ok (.aload_n 0, 1) := by decide +kernel
theorem dX13_brokenCount_6 : decode cX13_brokenCount 6 = .ok (.invokevirtual 103, 3) := by decide +kernel
theorem dX13_brokenCount_9 : decode cX13_brokenCount 9 = .ok (.ireturn, 1) := by decide +kernel
theorem dX13_oddReeds_0 : decode cX13_oddReeds 0 = .ok (.aload_n 0, 1) := by decide +kernel
theorem dX13_oddReeds_1 : decode cX13_oddReeds 1 = .ok (.iconst 0, 1) := by decide +kernel
theorem dX13_oddReeds_2 : decode cX13_oddReeds 2 = .ok (.putfield 53, 3) := by decide +kernel
theorem dX13_oddReeds_5 : decode cX13_oddReeds 5 = .ok (.iconst 0, 1) := by decide +kernel
theorem dX13_oddReeds_6 : decode cX13_oddReeds 6 = .ok (.istore_n 1, 1) := by decide +kernel
theorem dX13_oddReeds_7 : decode cX13_oddReeds 7 = .ok (.iconst 0, 1) := by decide +kernel
theorem dX13_oddReeds_8 : decode cX13_oddReeds 8 = .ok (.istore_n 2, 1) := by decide +kernel
theorem dX13_oddReeds_9 : decode cX13_oddReeds 9 = .ok (.iload_n 2, 1) := by decide +kernel
theorem dX13_oddReeds_10 : decode cX13_oddReeds 10 = .ok (.bipush 81, 2) := by decide +kernel
theorem dX13_oddReeds_12 : decode cX13_oddReeds 12 = .ok (.if_icmp .ge 37, 3) := by decide +kernel
theorem dX13_oddReeds_15 : decode cX13_oddReeds 15 = .ok (.iload_n 1, 1) := by decide +kernel
theorem dX13_oddReeds_16 : decode cX13_oddReeds 16 = .ok (.aload_n 0, 1) := by decide +kernel
theorem dX13_oddReeds_17 : decode cX13_oddReeds 17 = .ok (.iload_n 2, 1) := by decide +kernel
theorem dX13_oddReeds_18 : decode cX13_oddReeds 18 = .ok (.invokevirtual 67, 3) := by decide +kernel
theorem dX13_oddReeds_21 : decode cX13_oddReeds 21 = .ok (.iconst 1, 1) := by decide +kernel
theorem dX13_oddReeds_22 : decode cX13_oddReeds 22 = .ok (.if_icmp .ne 18, 3) := by decide +kernel
theorem dX13_oddReeds_25 : decode cX13_oddReeds 25 = .ok (.aload_n 0, 1) := by decide +kernel
theorem dX13_oddReeds_26 : decode cX13_oddReeds 26 = .ok (.iload_n 2, 1) := by decide +kernel
theorem dX13_oddReeds_27 : decode cX13_oddReeds 27 = .ok (.invokestatic 71, 3) := by decide +kernel
theorem dX13_oddReeds_30 : decode cX13_oddReeds 30 = .ok (.invokevirtual 67, 3) := by decide +kernel
theorem dX13_oddReeds_33 : decode cX13_oddReeds 33 = .ok (.ifCond .ne 7, 3) := by decide +kernel
theorem dX13_oddReeds_36 : decode cX13_oddReeds 36 = .ok (.iconst 1, 1) := by decide +kernel
theorem dX13_oddReeds_37 : decode cX13_oddReeds 37 = .ok (.goto 4, 3) := by decide +kernel
theorem dX13_oddReeds_40 : decode cX13_oddReeds 40 = .ok (.iconst 0, 1) := by decide +kernel
theorem dX13_oddReeds_41 : decode cX13_oddReeds 41 = .ok (.iadd, 1) := by decide +kernel
theorem dX13_oddReeds_42 : decode cX13_oddReeds 42 = .ok (.istore_n 1, 1) := by decide +kernel
theorem dX13_oddReeds_43 : decode cX13_oddReeds 43 = .ok (.iinc 2 1, 3) := by decide +kernel
theorem dX13_oddReeds_46 : decode cX13_oddReeds 46 = .ok (.goto (-37), 3) := by decide +kernel
theorem dX13_oddReeds_49 : decode cX13_oddReeds 49 = .ok (.iload_n 1, 1) := by decide +kernel
theorem dX13_oddReeds_50 : decode cX13_oddReeds 50 = .ok (.ireturn, 1) := by decide +kernel
theorem dX13_oddReedsByRows_0 : decode cX13_oddReedsByRows 0 = .ok (.aload_n 0, 1) := by decide +kernel
theorem dX13_oddReedsByRows_1 : decode cX13_oddReedsByRows 1 = .ok (.invokevirtual 120, 3) := by decide +kernel
theorem dX13_oddReedsByRows_4 : decode cX13_oddReedsByRows 4 = .ok (.ireturn, 1) := by decide +kernel
theorem dX13_fogs_0 : decode cX13_fogs 0 = .ok (.iload_n 1, 1) := by decide +kernel
theorem dX13_fogs_1 : decode cX13_fogs 1 = .ok (.iconst 0, 1) := by decide +kernel
theorem dX13_fogs_2 : decode cX13_fogs 2 = .ok (.iconst 2, 1) := by decide +kernel
theorem dX13_fogs_3 : decode cX13_fogs 3 = .ok (.invokestatic 63, 3) := by decide +kernel
theorem dX13_fogs_6 : decode cX13_fogs 6 = .ok (.ifCond .ne 9, 3) := by decide +kernel
theorem dX13_fogs_9 : decode cX13_fogs 9 = .ok (.aload_n 0, 1) := by decide +kernel
theorem dX13_fogs_10 : decode cX13_fogs 10 = .ok (.iconst 1, 1) := by decide +kernel
theorem dX13_fogs_11 : decode cX13_fogs 11 = .ok (.invokevirtual 88, 3) := by decide +kernel
theorem dX13_fogs_14 : decode cX13_fogs 14 = .ok (.ireturn, 1) := by decide +kernel
theorem dX13_fogs_15 : decode cX13_fogs 15 = .ok (.aload_n 0, 1) := by decide +kernel
theorem dX13_fogs_16 : decode cX13_fogs 16 = .ok (.getfield 16, 3) := by decide +kernel
theorem dX13_fogs_19 : decode cX13_fogs 19 = .ok (.iconst 1, 1) := by decide +kernel
theorem dX13_fogs_20 : decode cX13_fogs 20 = .ok (.iaload, 1) := by decide +kernel
theorem dX13_fogs_21 : decode cX13_fogs 21 = .ok (.istore_n 2, 1) := by decide +kernel
theorem dX13_fogs_22 : decode cX13_fogs 22 = .ok (.aload_n 0, 1) := by decide +kernel
theorem dX13_fogs_23 : decode cX13_fogs 23 = .ok (.getfield 16, 3) := by decide +kernel
theorem dX13_fogs_26 : decode cX13_fogs 26 = .ok (.iconst 1, 1) := by decide +kernel
theorem dX13_fogs_27 : decode cX13_fogs 27 = .ok (.iload_n 1, 1) := by decide +kernel
theorem dX13_fogs_28 : decode cX13_fogs 28 = .ok (.iastore, 1) := by decide +kernel
theorem dX13_fogs_29 : decode cX13_fogs 29 = .ok (.iload_n 2, 1) := by decide +kernel
theorem dX13_fogs_30 : decode cX13_fogs 30 = .ok (.ireturn, 1) := by decide +kernel
theorem dX13_setFog_0 : decode cX13_setFog 0 = .ok (.aload_n 0, 1) := by decide +kernel
theorem dX13_setFog_1 : decode cX13_setFog 1 = .ok (.invokevirtual 94, 3) := by decide +kernel
theorem dX13_setFog_4 : decode cX13_setFog 4 = .ok (.aload_n 0, 1) := by decide +kernel
theorem dX13_setFog_5 : decode cX13_setFog 5 = .ok (.aload_n 0, 1) := by decide +kernel
theorem dX13_setFog_6 : decode cX13_setFog 6 = .ok (.iload_n 1, 1) := by decide +kernel
theorem dX13_setFog_7 : decode cX13_setFog 7 = .ok (.invokevirtual 123, 3) := by decide +kernel
theorem dX13_setFog_10 : decode cX13_setFog 10 = .ok (.invokevirtual 100, 3) := by decide +kernel
theorem dX13_setFog_13 : decode cX13_setFog 13 = .ok (.ireturn, 1) := by decide +kernel
theorem dX13_fog_0 : decode cX13_fog 0 = .ok (.aload_n 0, 1) := by decide +kernel
theorem dX13_fog_1 : decode cX13_fog 1 = .ok (.iconst 1, 1) := by decide +kernel
theorem dX13_fog_2 : decode cX13_fog 2 = .ok (.invokevirtual 117, 3) := by decide +kernel
theorem dX13_fog_5 : decode cX13_fog 5 = .ok (.ireturn, 1) := by decide +kernel
theorem dX13_boats_0 : decode cX13_boats 0 = .ok (.iload_n 1, 1) := by decide +kernel
theorem dX13_boats_1 : decode cX13_boats 1 = .ok (.iload_n 2, 1) := by decide +kernel
theorem dX13_boats_2 : decode cX13_boats 2 = .ok (.invokestatic 84, 3) := by decide +kernel
theorem dX13_boats_5 : decode cX13_boats 5 = .ok (.ifCond .ne 9, 3) := by decide +kernel
theorem dX13_boats_8 : decode cX13_boats 8 = .ok (.aload_n 0, 1) := by decide +kernel
theorem dX13_boats_9 : decode cX13_boats 9 = .ok (.iconst 1, 1) := by decide +kernel
theorem dX13_boats_10 : decode cX13_boats 10 = .ok (.invokevirtual 88, 3) := by decide +kernel
theorem dX13_boats_13 : decode cX13_boats 13 = .ok (.ireturn, 1) := by decide +kernel
theorem dX13_boats_14 : decode cX13_boats 14 = .ok (.aload_n 0, 1) := by decide +kernel
theorem dX13_boats_15 : decode cX13_boats 15 = .ok (.getfield 16, 3) := by decide +kernel
theorem dX13_boats_18 : decode cX13_boats 18 = .ok (.iconst 3, 1) := by decide +kernel
theorem dX13_boats_19 : decode cX13_boats 19 = .ok (.iaload, 1) := by decide +kernel
theorem dX13_boats_20 : decode cX13_boats 20 = .ok (.istore_n 3, 1) := by decide +kernel
theorem dX13_boats_21 : decode cX13_boats 21 = .ok (.iload_n 3, 1) := by decide +kernel
theorem dX13_boats_22 : decode cX13_boats 22 = .ok (.iconst 4, 1) := by decide +kernel
theorem dX13_boats_23 : decode cX13_boats 23 = .ok (.if_icmp .ne 9, 3) := by decide +kernel
theorem dX13_boats_26 : decode cX13_boats 26 = .ok (.aload_n 0, 1) := by decide +kernel
theorem dX13_boats_27 : decode cX13_boats 27 = .ok (.iconst 2, 1) := by decide +kernel
theorem dX13_boats_28 : decode cX13_boats 28 = .ok (.invokevirtual 88, 3) := by decide +kernel
theorem dX13_boats_31 : decode cX13_boats 31 = .ok (.ireturn, 1) := by decide +kernel
theorem dX13_boats_32 : decode cX13_boats 32 = .ok (.aload_n 0, 1) := by decide +kernel
theorem dX13_boats_33 : decode cX13_boats 33 = .ok (.iload_n 1, 1) := by decide +kernel
theorem dX13_boats_34 : decode cX13_boats 34 = .ok (.iload_n 2, 1) := by decide +kernel
theorem dX13_boats_35 : decode cX13_boats 35 = .ok (.invokestatic 78, 3) := by decide +kernel
theorem dX13_boats_38 : decode cX13_boats 38 = .ok (.invokevirtual 113, 3) := by decide +kernel
theorem dX13_boats_41 : decode cX13_boats 41 = .ok (.ifCond .eq 16, 3) := by decide +kernel
theorem dX13_boats_44 : decode cX13_boats 44 = .ok (.aload_n 0, 1) := by decide +kernel
theorem dX13_boats_45 : decode cX13_boats 45 = .ok (.iload_n 1, 1) := by decide +kernel
theorem dX13_boats_46 : decode cX13_boats 46 = .ok (.iload_n 2, 1) := by decide +kernel
theorem dX13_boats_47 : decode cX13_boats 47 = .ok (.invokestatic 78, 3) := by decide +kernel
theorem dX13_boats_50 : decode cX13_boats 50 = .ok (.iconst (-1), 1) := by decide +kernel
theorem dX13_boats_51 : decode cX13_boats 51 = .ok (.invokevirtual 91, 3) := by decide +kernel
theorem dX13_boats_54 : decode cX13_boats 54 = .ok (.ifCond .eq 9, 3) := by decide +kernel
theorem dX13_boats_57 : decode cX13_boats 57 = .ok (.aload_n 0, 1) := by decide +kernel
theorem dX13_boats_58 : decode cX13_boats 58 = .ok (.iconst 3, 1) := by decide +kernel
theorem dX13_boats_59 : decode cX13_boats 59 = .ok (.invokevirtual 88, 3) := by decide +kernel
theorem dX13_boats_62 : decode cX13_boats 62 = .ok (.ireturn, 1) := by decide +kernel
theorem dX13_boats_63 : decode cX13_boats 63 = .ok (.aload_n 0, 1) := by decide +kernel
theorem dX13_boats_64 : decode cX13_boats 64 = .ok (.getfield 16, 3) := by decide +kernel
theorem dX13_boats_67 : decode cX13_boats 67 = .ok (.iload_n 3, 1) := by decide +kernel
theorem dX13_boats_68 : decode cX13_boats 68 = .ok (.iconst 0, 1) := by decide +kernel
theorem dX13_boats_69 : decode cX13_boats 69 = .ok (.invokestatic 74, 3) := by decide +kernel
theorem dX13_boats_72 : decode cX13_boats 72 = .ok (.aload_n 0, 1) := by decide +kernel
theorem dX13_boats_73 : decode cX13_boats 73 = .ok (.getfield 16, 3) := by decide +kernel
theorem dX13_boats_76 : decode cX13_boats 76 = .ok (.iconst 2, 1) := by decide +kernel
theorem dX13_boats_77 : decode cX13_boats 77 = .ok (.iaload, 1) := by decide +kernel
theorem dX13_boats_78 : decode cX13_boats 78 = .ok (.iastore, 1) := by decide +kernel
theorem dX13_boats_79 : decode cX13_boats 79 = .ok (.aload_n 0, 1) := by decide +kernel
theorem dX13_boats_80 : decode cX13_boats 80 = .ok (.getfield 16, 3) := by decide +kernel
theorem dX13_boats_83 : decode cX13_boats 83 = .ok (.iload_n 3, 1) := by decide +kernel
theorem dX13_boats_84 : decode cX13_boats 84 = .ok (.iconst 1, 1) := by decide +kernel
theorem dX13_boats_85 : decode cX13_boats 85 = .ok (.invokestatic 74, 3) := by decide +kernel
theorem dX13_boats_88 : decode cX13_boats 88 = .ok (.iload_n 1, 1) := by decide +kernel
theorem dX13_boats_89 : decode cX13_boats 89 = .ok (.iastore, 1) := by decide +kernel
theorem dX13_boats_90 : decode cX13_boats 90 = .ok (.aload_n 0, 1) := by decide +kernel
theorem dX13_boats_91 : decode cX13_boats 91 = .ok (.getfield 16, 3) := by decide +kernel
theorem dX13_boats_94 : decode cX13_boats 94 = .ok (.iload_n 3, 1) := by decide +kernel
theorem dX13_boats_95 : decode cX13_boats 95 = .ok (.iconst 2, 1) := by decide +kernel
theorem dX13_boats_96 : decode cX13_boats 96 = .ok (.invokestatic 74, 3) := by decide +kernel
theorem dX13_boats_99 : decode cX13_boats 99 = .ok (.iload_n 2, 1) := by decide +kernel
theorem dX13_boats_100 : decode cX13_boats 100 = .ok (.iastore, 1) := by decide +kernel
theorem dX13_boats_101 : decode cX13_boats 101 = .ok (.aload_n 0, 1) := by decide +kernel
theorem dX13_boats_102 : decode cX13_boats 102 = .ok (.getfield 16, 3) := by decide +kernel
theorem dX13_boats_105 : decode cX13_boats 105 = .ok (.iload_n 3, 1) := by decide +kernel
theorem dX13_boats_106 : decode cX13_boats 106 = .ok (.iconst 3, 1) := by decide +kernel
theorem dX13_boats_107 : decode cX13_boats 107 = .ok (.invokestatic 74, 3) := by decide +kernel
theorem dX13_boats_110 : decode cX13_boats 110 = .ok (.iconst 0, 1) := by decide +kernel
theorem dX13_boats_111 : decode cX13_boats 111 = .ok (.iastore, 1) := by decide +kernel
theorem dX13_boats_112 : decode cX13_boats 112 = .ok (.aload_n 0, 1) := by decide +kernel
theorem dX13_boats_113 : decode cX13_boats 113 = .ok (.getfield 16, 3) := by decide +kernel
theorem dX13_boats_116 : decode cX13_boats 116 = .ok (.iconst 3, 1) := by decide +kernel
theorem dX13_boats_117 : decode cX13_boats 117 = .ok (.dup2, 1) := by decide +kernel
theorem dX13_boats_118 : decode cX13_boats 118 = .ok (.iaload, 1) := by decide +kernel
theorem dX13_boats_119 : decode cX13_boats 119 = .ok (.iconst 1, 1) := by decide +kernel
theorem dX13_boats_120 : decode cX13_boats 120 = .ok (.iadd, 1) := by decide +kernel
theorem dX13_boats_121 : decode cX13_boats 121 = .ok (.iastore, 1) := by decide +kernel
theorem dX13_boats_122 : decode cX13_boats 122 = .ok (.aload_n 0, 1) := by decide +kernel
theorem dX13_boats_123 : decode cX13_boats 123 = .ok (.getfield 16, 3) := by decide +kernel
theorem dX13_boats_126 : decode cX13_boats 126 = .ok (.iconst 2, 1) := by decide +kernel
theorem dX13_boats_127 : decode cX13_boats 127 = .ok (.dup2, 1) := by decide +kernel
theorem dX13_boats_128 : decode cX13_boats 128 = .ok (.iaload, 1) := by decide +kernel
theorem dX13_boats_129 : decode cX13_boats 129 = .ok (.iconst 1, 1) := by decide +kernel
theorem dX13_boats_130 : decode cX13_boats 130 = .ok (.iadd, 1) := by decide +kernel
theorem dX13_boats_131 : decode cX13_boats 131 = .ok (.iastore, 1) := by decide +kernel
theorem dX13_boats_132 : decode cX13_boats 132 = .ok (.aload_n 0, 1) := by decide +kernel
theorem dX13_boats_133 : decode cX13_boats 133 = .ok (.getfield 16, 3) := by decide +kernel
theorem dX13_boats_136 : decode cX13_boats 136 = .ok (.iload_n 3, 1) := by decide +kernel
theorem dX13_boats_137 : decode cX13_boats 137 = .ok (.iconst 0, 1) := by decide +kernel
theorem dX13_boats_138 : decode cX13_boats 138 = .ok (.invokestatic 74, 3) := by decide +kernel
theorem dX13_boats_141 : decode cX13_boats 141 = .ok (.iaload, 1) := by decide +kernel
theorem dX13_boats_142 : decode cX13_boats 142 = .ok (.ireturn, 1) := by decide +kernel
theorem dX13_addBoat_0 : decode cX13_addBoat 0 = .ok (.aload_n 0, 1) := by decide +kernel
theorem dX13_addBoat_1 : decode cX13_addBoat 1 = .ok (.invokevirtual 94, 3) := by decide +kernel
theorem dX13_addBoat_4 : decode cX13_addBoat 4 = .ok (.aload_n 0, 1) := by decide +kernel
theorem dX13_addBoat_5 : decode cX13_addBoat 5 = .ok (.aload_n 0, 1) := by decide +kernel
theorem dX13_addBoat_6 : decode cX13_addBoat 6 = .ok (.iload_n 1, 1) := by decide +kernel
theorem dX13_addBoat_7 : decode cX13_addBoat 7 = .ok (.iload_n 2, 1) := by decide +kernel
theorem dX13_addBoat_8 : decode cX13_addBoat 8 = .ok (.invokevirtual 126, 3) := by decide +kernel
theorem dX13_addBoat_11 : decode cX13_addBoat 11 = .ok (.invokevirtual 100, 3) := by decide +kernel
theorem dX13_addBoat_14 : decode cX13_addBoat 14 = .ok (.ireturn, 1) := by decide +kernel
theorem dX13_leaves_0 : decode cX13_leaves 0 = .ok (.iload_n 1, 1) := by decide +kernel
theorem dX13_leaves_1 : decode cX13_leaves 1 = .ok (.ifCond .ge 9, 3) := by decide +kernel
theorem dX13_leaves_4 : decode cX13_leaves 4 = .ok (.aload_n 0, 1) := by decide +kernel
theorem dX13_leaves_5 : decode cX13_leaves 5 = .ok (.iconst 1, 1) := by decide +kernel
theorem dX13_leaves_6 : decode cX13_leaves 6 = .ok (.invokevirtual 88, 3) := by decide +kernel
theorem dX13_leaves_9 : decode cX13_leaves 9 = .ok (.ireturn, 1) := by decide +kernel
theorem dX13_leaves_10 : decode cX13_leaves 10 = .ok (.aload_n 0, 1) := by decide +kernel
theorem dX13_leaves_11 : decode cX13_leaves 11 = .ok (.getfield 16, 3) := by decide +kernel
theorem dX13_leaves_14 : decode cX13_leaves 14 = .ok (.iload_n 1, 1) := by decide +kernel
theorem dX13_leaves_15 : decode cX13_leaves 15 = .ok (.iconst 3, 1) := by decide +kernel
theorem dX13_leaves_16 : decode cX13_leaves 16 = .ok (.invokestatic 74, 3) := by decide +kernel
theorem dX13_leaves_19 : decode cX13_leaves 19 = .ok (.iaload, 1) := by decide +kernel
theorem dX13_leaves_20 : decode cX13_leaves 20 = .ok (.istore_n 2, 1) := by decide +kernel
theorem dX13_leaves_21 : decode cX13_leaves 21 = .ok (.iload_n 1, 1) := by decide +kernel
theorem dX13_leaves_22 : decode cX13_leaves 22 = .ok (.iconst 0, 1) := by decide +kernel
theorem dX13_leaves_23 : decode cX13_leaves 23 = .ok (.invokestatic 74, 3) := by decide +kernel
theorem dX13_leaves_26 : decode cX13_leaves 26 = .ok (.istore_n 3, 1) := by decide +kernel
theorem dX13_leaves_27 : decode cX13_leaves 27 = .ok (.iload_n 3, 1) := by decide +kernel
theorem dX13_leaves_28 : decode cX13_leaves 28 = .ok (.bipush 104, 2) := by decide +kernel
theorem dX13_leaves_30 : decode cX13_leaves 30 = .ok (.if_icmp .ge 35, 3) := by decide +kernel
theorem dX13_leaves_33 : decode cX13_leaves 33 = .ok (.aload_n 0, 1) := by decide +kernel
theorem dX13_leaves_34 : decode cX13_leaves 34 = .ok (.getfield 16, 3) := by decide +kernel
theorem dX13_leaves_37 : decode cX13_leaves 37 = .ok (.iload_n 3, 1) := by decide +kernel
theorem dX13_leaves_38 : decode cX13_leaves 38 = .ok (.iload_n 3, 1) := by decide +kernel
theorem dX13_leaves_39 : decode cX13_leaves 39 = .ok (.iconst 4, 1) := by decide +kernel
theorem dX13_leaves_40 : decode cX13_leaves 40 = .ok (.iadd, 1) := by decide +kernel
theorem dX13_leaves_41 : decode cX13_leaves 41 = .ok (.bipush 104, 2) := by decide +kernel
theorem dX13_leaves_43 : decode cX13_leaves 43 = .ok (.if_icmp .ge 14, 3) := by decide +kernel
theorem dX13_leaves_46 : decode cX13_leaves 46 = .ok (.aload_n 0, 1) := by decide +kernel
theorem dX13_leaves_47 : decode cX13_leaves 47 = .ok (.getfield 16, 3) := by decide +kernel
theorem dX13_leaves_50 : decode cX13_leaves 50 = .ok (.iload_n 3, 1) := by decide +kernel
theorem dX13_leaves_51 : decode cX13_leaves 51 = .ok (.iconst 4, 1) := by decide +kernel
theorem dX13_leaves_52 : decode cX13_leaves 52 = .ok (.iadd, 1) := by decide +kernel
theorem dX13_leaves_53 : decode cX13_leaves 53 = .ok (.iaload, 1) := by decide +kernel
theorem dX13_leaves_54 : decode cX13_leaves 54 = .ok (.goto 4, 3) := by decide +kernel
theorem dX13_leaves_57 : decode cX13_leaves 57 = .ok (.iconst 0, 1) := by decide +kernel
theorem dX13_leaves_58 : decode cX13_leaves 58 = .ok (.iastore, 1) := by decide +kernel
theorem dX13_leaves_59 : decode cX13_leaves 59 = .ok (.iinc 3 1, 3) := by decide +kernel
theorem dX13_leaves_62 : decode cX13_leaves 62 = .ok (.goto (-35), 3) := by decide +kernel
theorem dX13_leaves_65 : decode cX13_leaves 65 = .ok (.aload_n 0, 1) := by decide +kernel
theorem dX13_leaves_66 : decode cX13_leaves 66 = .ok (.getfield 16, 3) := by decide +kernel
theorem dX13_leaves_69 : decode cX13_leaves 69 = .ok (.iconst 3, 1) := by decide +kernel
theorem dX13_leaves_70 : decode cX13_leaves 70 = .ok (.dup2, 1) := by decide +kernel
theorem dX13_leaves_71 : decode cX13_leaves 71 = .ok (.iaload, 1) := by decide +kernel
theorem dX13_leaves_72 : decode cX13_leaves 72 = .ok (.iconst 1, 1) := by decide +kernel
theorem dX13_leaves_73 : decode cX13_leaves 73 = .ok (.isub, 1) := by decide +kernel
theorem dX13_leaves_74 : decode cX13_leaves 74 = .ok (.iastore, 1) := by decide +kernel
theorem dX13_leaves_75 : decode cX13_leaves 75 = .ok (.aload_n 0, 1) := by decide +kernel
theorem dX13_leaves_76 : decode cX13_leaves 76 = .ok (.getfield 16, 3) := by decide +kernel
theorem dX13_leaves_79 : decode cX13_leaves 79 = .ok (.iconst 5, 1) := by decide +kernel
theorem dX13_leaves_80 : decode cX13_leaves 80 = .ok (.dup2, 1) := by decide +kernel
theorem dX13_leaves_81 : decode cX13_leaves 81 = .ok (.iaload, 1) := by decide +kernel
theorem dX13_leaves_82 : decode cX13_leaves 82 = .ok (.iload_n 2, 1) := by decide +kernel
theorem dX13_leaves_83 : decode cX13_leaves 83 = .ok (.iadd, 1) := by decide +kernel
theorem dX13_leaves_84 : decode cX13_leaves 84 = .ok (.iastore, 1) := by decide +kernel
theorem dX13_leaves_85 : decode cX13_leaves 85 = .ok (.iload_n 2, 1) := by decide +kernel
theorem dX13_leaves_86 : decode cX13_leaves 86 = .ok (.ireturn, 1) := by decide +kernel
theorem dX13_removeBoat_0 : decode cX13_removeBoat 0 = .ok (.aload_n 0, 1) := by decide +kernel
theorem dX13_removeBoat_1 : decode cX13_removeBoat 1 = .ok (.invokevirtual 94, 3) := by decide +kernel
theorem dX13_removeBoat_4 : decode cX13_removeBoat 4 = .ok (.aload_n 0, 1) := by decide +kernel
theorem dX13_removeBoat_5 : decode cX13_removeBoat 5 = .ok (.aload_n 0, 1) := by decide +kernel
theorem dX13_removeBoat_6 : decode cX13_removeBoat 6 = .ok (.aload_n 0, 1) := by decide +kernel
theorem dX13_removeBoat_7 : decode cX13_removeBoat 7 = .ok (.iload_n 1, 1) := by decide +kernel
theorem dX13_removeBoat_8 : decode cX13_removeBoat 8 = .ok (.invokevirtual 129, 3) := by decide +kernel
theorem dX13_removeBoat_11 : decode cX13_removeBoat 11 = .ok (.invokevirtual 132, 3) := by decide +kernel
theorem dX13_removeBoat_14 : decode cX13_removeBoat 14 = .ok (.invokevirtual 100, 3) := by decide +kernel
theorem dX13_removeBoat_17 : decode cX13_removeBoat 17 = .ok (.ireturn, 1) := by decide +kernel
theorem dX13_boatCount_0 : decode cX13_boatCount 0 = .ok (.aload_n 0, 1) := by decide +kernel
theorem dX13_boatCount_1 : decode cX13_boatCount 1 = .ok (.iconst 3, 1) := by decide +kernel
theorem dX13_boatCount_2 : decode cX13_boatCount 2 = .ok (.invokevirtual 117, 3) := by decide +kernel
theorem dX13_boatCount_5 : decode cX13_boatCount 5 = .ok (.ireturn, 1) := by decide +kernel
theorem dX13_boatAt_0 : decode cX13_boatAt 0 = .ok (.aload_n 0, 1) := by decide +kernel
theorem dX13_boatAt_1 : decode cX13_boatAt 1 = .ok (.iload_n 1, 1) := by decide +kernel
theorem dX13_boatAt_2 : decode cX13_boatAt 2 = .ok (.iconst 0, 1) := by decide +kernel
theorem dX13_boatAt_3 : decode cX13_boatAt 3 = .ok (.aload_n 0, 1) := by decide +kernel
theorem dX13_boatAt_4 : decode cX13_boatAt 4 = .ok (.getfield 16, 3) := by decide +kernel
theorem dX13_boatAt_7 : decode cX13_boatAt 7 = .ok (.iconst 3, 1) := by decide +kernel
theorem dX13_boatAt_8 : decode cX13_boatAt 8 = .ok (.iaload, 1) := by decide +kernel
theorem dX13_boatAt_9 : decode cX13_boatAt 9 = .ok (.iconst 1, 1) := by decide +kernel
theorem dX13_boatAt_10 : decode cX13_boatAt 10 = .ok (.isub, 1) := by decide +kernel
theorem dX13_boatAt_11 : decode cX13_boatAt 11 = .ok (.invokestatic 63, 3) := by decide +kernel
theorem dX13_boatAt_14 : decode cX13_boatAt 14 = .ok (.ifCond .eq 7, 3) := by decide +kernel
theorem dX13_boatAt_17 : decode cX13_boatAt 17 = .ok (.iconst 0, 1) := by decide +kernel
theorem dX13_boatAt_18 : decode cX13_boatAt 18 = .ok (.goto 4, 3) := by decide +kernel
theorem dX13_boatAt_21 : decode cX13_boatAt 21 = .ok (.iconst 1, 1) := by decide +kernel
theorem dX13_boatAt_22 : decode cX13_boatAt 22 = .ok (.putfield 53, 3) := by decide +kernel
theorem dX13_boatAt_25 : decode cX13_boatAt 25 = .ok (.aload_n 0, 1) := by decide +kernel
theorem dX13_boatAt_26 : decode cX13_boatAt 26 = .ok (.getfield 53, 3) := by decide +kernel
theorem dX13_boatAt_29 : decode cX13_boatAt 29 = .ok (.ifCond .ne 16, 3) := by decide +kernel
theorem dX13_boatAt_32 : decode cX13_boatAt 32 = .ok (.aload_n 0, 1) := by decide +kernel
theorem dX13_boatAt_33 : decode cX13_boatAt 33 = .ok (.getfield 16, 3) := by decide +kernel
theorem dX13_boatAt_36 : decode cX13_boatAt 36 = .ok (.iload_n 1, 1) := by decide +kernel
theorem dX13_boatAt_37 : decode cX13_boatAt 37 = .ok (.iconst 0, 1) := by decide +kernel
theorem dX13_boatAt_38 : decode cX13_boatAt 38 = .ok (.invokestatic 74, 3) := by decide +kernel
theorem dX13_boatAt_41 : decode cX13_boatAt 41 = .ok (.iaload, 1) := by decide +kernel
theorem dX13_boatAt_42 : decode cX13_boatAt 42 = .ok (.goto 4, 3) := by decide +kernel
theorem dX13_boatAt_45 : decode cX13_boatAt 45 = .ok (.iconst 0, 1) := by decide +kernel
theorem dX13_boatAt_46 : decode cX13_boatAt 46 = .ok (.ireturn, 1) := by decide +kernel
theorem dX13_tellsOf_0 : decode cX13_tellsOf 0 = .ok (.aload_n 0, 1) := by decide +kernel
theorem dX13_tellsOf_1 : decode cX13_tellsOf 1 = .ok (.aload_n 0, 1) := by decide +kernel
theorem dX13_tellsOf_2 : decode cX13_tellsOf 2 = .ok (.iload_n 1, 1) := by decide +kernel
theorem dX13_tellsOf_3 : decode cX13_tellsOf 3 = .ok (.invokevirtual 129, 3) := by decide +kernel
theorem dX13_tellsOf_6 : decode cX13_tellsOf 6 = .ok (.ifCond .ge 7, 3) := by decide +kernel
theorem dX13_tellsOf_9 : decode cX13_tellsOf 9 = .ok (.iconst 1, 1) := by decide +kernel
theorem dX13_tellsOf_10 : decode cX13_tellsOf 10 = .ok (.goto 4, 3) := by decide +kernel
theorem dX13_tellsOf_13 : decode cX13_tellsOf 13 = .ok (.iconst 0, 1) := by decide +kernel
theorem dX13_tellsOf_14 : decode cX13_tellsOf 14 = .ok (.putfield 53, 3) := by decide +kernel
theorem dX13_tellsOf_17 : decode cX13_tellsOf 17 = .ok (.aload_n 0, 1) := by decide +kernel
theorem dX13_tellsOf_18 : decode cX13_tellsOf 18 = .ok (.getfield 53, 3) := by decide +kernel
theorem dX13_tellsOf_21 : decode cX13_tellsOf 21 = .ok (.ifCond .ne 20, 3) := by decide +kernel
theorem dX13_tellsOf_24 : decode cX13_tellsOf 24 = .ok (.aload_n 0, 1) := by decide +kernel
theorem dX13_tellsOf_25 : decode cX13_tellsOf 25 = .ok (.getfield 16, 3) := by decide +kernel
theorem dX13_tellsOf_28 : decode cX13_tellsOf 28 = .ok (.aload_n 0, 1) := by decide +kernel
theorem dX13_tellsOf_29 : decode cX13_tellsOf 29 = .ok (.iload_n 1, 1) := by decide +kernel
theorem dX13_tellsOf_30 : decode cX13_tellsOf 30 = .ok (.invokevirtual 129, 3) := by decide +kernel
theorem dX13_tellsOf_33 : decode cX13_tellsOf 33 = .ok (.iload_n 2, 1) := by decide +kernel
theorem dX13_tellsOf_34 : decode cX13_tellsOf 34 = .ok (.invokestatic 74, 3) := by decide +kernel
theorem dX13_tellsOf_37 : decode cX13_tellsOf 37 = .ok (.iaload, 1) := by decide +kernel
theorem dX13_tellsOf_38 : decode cX13_tellsOf 38 = .ok (.goto 4, 3) := by decide +kernel
theorem dX13_tellsOf_41 : decode cX13_tellsOf 41 = .ok (.iconst 0, 1) := by decide +kernel
theorem dX13_tellsOf_42 : decode cX13_tellsOf 42 = .ok (.ireturn, 1) := by decide +kernel
theorem dX13_columnOf_0 : decode cX13_columnOf 0 = .ok (.aload_n 0, 1) := by decide +kernel
theorem dX13_columnOf_1 : decode cX13_columnOf 1 = .ok (.iload_n 1, 1) := by decide +kernel
theorem dX13_columnOf_2 : decode cX13_columnOf 2 = .ok (.iconst 1, 1) := by decide +kernel
theorem dX13_columnOf_3 : decode cX13_columnOf 3 = .ok (.invokevirtual 135, 3) := by decide +kernel
theorem dX13_columnOf_6 : decode cX13_columnOf 6 = .ok (.ireturn, 1) := by decide +kernel
theorem dX13_rowOf_0 : decode cX13_rowOf 0 = .ok (.aload_n 0, 1) := by decide +kernel
theorem dX13_rowOf_1 : decode cX13_rowOf 1 = .ok (.iload_n 1, 1) := by decide +kernel
theorem dX13_rowOf_2 : decode cX13_rowOf 2 = .ok (.iconst 2, 1) := by decide +kernel
theorem dX13_rowOf_3 : decode cX13_rowOf 3 = .ok (.invokevirtual 135, 3) := by decide +kernel
theorem dX13_rowOf_6 : decode cX13_rowOf 6 = .ok (.ireturn, 1) := by decide +kernel
theorem dX13_imageColumnOf_0 : decode cX13_imageColumnOf 0 = .ok (.aload_n 0, 1) := by decide +kernel
theorem dX13_imageColumnOf_1 : decode cX13_imageColumnOf 1 = .ok (.iload_n 1, 1) := by decide +kernel
theorem dX13_imageColumnOf_2 : decode cX13_imageColumnOf 2 = .ok (.iconst 1, 1) := by decide +kernel
theorem dX13_imageColumnOf_3 : decode cX13_imageColumnOf 3 = .ok (.invokevirtual 135, 3) := by decide +kernel
theorem dX13_imageColumnOf_6 : decode cX13_imageColumnOf 6 = .ok (.istore_n 2, 1) := by decide +kernel
theorem dX13_imageColumnOf_7 : decode cX13_imageColumnOf 7 = .ok (.aload_n 0, 1) := by decide +kernel
theorem dX13_imageColumnOf_8 : decode cX13_imageColumnOf 8 = .ok (.getfield 53, 3) := by decide +kernel
theorem dX13_imageColumnOf_11 : decode cX13_imageColumnOf 11 = .ok (.ifCond .ne 10, 3) := by decide +kernel
theorem dX13_imageColumnOf_14 : decode cX13_imageColumnOf 14 = .ok (.bipush 8, 2) := by decide +kernel
theorem dX13_imageColumnOf_16 : decode cX13_imageColumnOf 16 = .ok (.iload_n 2, 1) := by decide +kernel
theorem dX13_imageColumnOf_17 : decode cX13_imageColumnOf 17 = .ok (.isub, 1) := by decide +kernel
theorem dX13_imageColumnOf_18 : decode cX13_imageColumnOf 18 = .ok (.goto 4, 3) := by decide +kernel
theorem dX13_imageColumnOf_21 : decode cX13_imageColumnOf 21 = .ok (.iconst 0, 1) := by decide +kernel
theorem dX13_imageColumnOf_22 : decode cX13_imageColumnOf 22 = .ok (.ireturn, 1) := by decide +kernel
theorem dX13_faresOf_0 : decode cX13_faresOf 0 = .ok (.aload_n 0, 1) := by decide +kernel
theorem dX13_faresOf_1 : decode cX13_faresOf 1 = .ok (.iload_n 1, 1) := by decide +kernel
theorem dX13_faresOf_2 : decode cX13_faresOf 2 = .ok (.iconst 3, 1) := by decide +kernel
theorem dX13_faresOf_3 : decode cX13_faresOf 3 = .ok (.invokevirtual 135, 3) := by decide +kernel
theorem dX13_faresOf_6 : decode cX13_faresOf 6 = .ok (.ireturn, 1) := by decide +kernel
theorem dX13_boatAtRank_0 : decode cX13_boatAtRank 0 = .ok (.aload_n 0, 1) := by decide +kernel
theorem dX13_boatAtRank_1 : decode cX13_boatAtRank 1 = .ok (.iconst 0, 1) := by decide +kernel
theorem dX13_boatAtRank_2 : decode cX13_boatAtRank 2 = .ok (.putfield 53, 3) := by decide +kernel
theorem dX13_boatAtRank_5 : decode cX13_boatAtRank 5 = .ok (.iconst 0, 1) := by decide +kernel
