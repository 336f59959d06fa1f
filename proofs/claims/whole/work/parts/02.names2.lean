theorem dX1_matchedSigns_0 : decode cX1_matchedSigns 0 = .ok (.iconst 0, 1) := by decide +kernel
theorem dX1_matchedSigns_1 : decode cX1_matchedSigns 1 = .ok (.istore_n 3, 1) := by decide +kernel
theorem dX1_matchedSigns_2 : decode cX1_matchedSigns 2 = .ok (.iload_n 3, 1) := by decide +kernel
theorem dX1_matchedSigns_3 : decode cX1_matchedSigns 3 = .ok (.aload_n 0, 1) := by decide +kernel
theorem dX1_matchedSigns_4 : decode cX1_matchedSigns 4 = .ok (.getfield 56, 3) := by decide +kernel
theorem dX1_matchedSigns_7 : decode cX1_matchedSigns 7 = .ok (.invokevirtual 60, 3) := by decide +kernel
theorem dX1_matchedSigns_10 : decode cX1_matchedSigns 10 = .ok (.if_icmp .ge 30, 3) := by decide +kernel
theorem dX1_matchedSigns_13 : decode cX1_matchedSigns 13 = .ok (.aload_n 0, 1) := by decide +kernel
theorem dX1_matchedSigns_14 : decode cX1_matchedSigns 14 = .ok (.getfield 56, 3) := by decide +kernel
theorem dX1_matchedSigns_17 : decode cX1_matchedSigns 17 = .ok (.iload_n 3, 1) := by decide +kernel
theorem dX1_matchedSigns_18 : decode cX1_matchedSigns 18 = .ok (.invokevirtual 66, 3) := by decide +kernel
theorem dX1_matchedSigns_21 : decode cX1_matchedSigns 21 = .ok (.aload_n 1, 1) := by decide +kernel
theorem dX1_matchedSigns_22 : decode cX1_matchedSigns 22 = .ok (.iload_n 2, 1) := by decide +kernel
theorem dX1_matchedSigns_23 : decode cX1_matchedSigns 23 = .ok (.iload_n 3, 1) := by decide +kernel
theorem dX1_matchedSigns_24 : decode cX1_matchedSigns 24 = .ok (.iadd, 1) := by decide +kernel
theorem dX1_matchedSigns_25 : decode cX1_matchedSigns 25 = .ok (.invokevirtual 70, 3) := by decide +kernel
theorem dX1_matchedSigns_28 : decode cX1_matchedSigns 28 = .ok (.invokestatic 75, 3) := by decide +kernel
theorem dX1_matchedSigns_31 : decode cX1_matchedSigns 31 = .ok (.ifCond .eq 9, 3) := by decide +kernel
theorem dX1_matchedSigns_34 : decode cX1_matchedSigns 34 = .ok (.iinc 3 1, 3) := by decide +kernel
theorem dX1_matchedSigns_37 : decode cX1_matchedSigns 37 = .ok (.goto (-35), 3) := by decide +kernel
theorem dX1_matchedSigns_40 : decode cX1_matchedSigns 40 = .ok (.iload_n 3, 1) := by decide +kernel
theorem dX1_matchedSigns_41 : decode cX1_matchedSigns 41 = .ok (.ireturn, 1) := by decide +kernel
theorem dX1_fits_0 : decode cX1_fits 0 = .ok (.iload_n 0, 1) := by decide +kernel
theorem dX1_fits_1 : decode cX1_fits 1 = .ok (.bipush 35, 2) := by decide +kernel
theorem dX1_fits_3 : decode cX1_fits 3 = .ok (.if_icmp .ne 23, 3) := by decide +kernel
theorem dX1_fits_6 : decode cX1_fits 6 = .ok (.iload_n 1, 1) := by decide +kernel
theorem dX1_fits_7 : decode cX1_fits 7 = .ok (.bipush 48, 2) := by decide +kernel
theorem dX1_fits_9 : decode cX1_fits 9 = .ok (.if_icmp .lt 13, 3) := by decide +kernel
theorem dX1_fits_12 : decode cX1_fits 12 = .ok (.iload_n 1, 1) := by decide +kernel
theorem dX1_fits_13 : decode cX1_fits 13 = .ok (.bipush 57, 2) := by decide +kernel
theorem dX1_fits_15 : decode cX1_fits 15 = .ok (.if_icmp .gt 7, 3) := by decide +kernel
theorem dX1_fits_18 : decode cX1_fits 18 = .ok (.iconst 1, 1) := by decide +kernel
theorem dX1_fits_19 : decode cX1_fits 19 = .ok (.goto 17, 3) := by decide +kernel
theorem dX1_fits_22 : decode cX1_fits 22 = .ok (.iconst 0, 1) := by decide +kernel
theorem dX1_fits_23 : decode cX1_fits 23 = .ok (.goto 13, 3) := by decide +kernel
theorem dX1_fits_26 : decode cX1_fits 26 = .ok (.iload_n 1, 1) := by decide +kernel
theorem dX1_fits_27 : decode cX1_fits 27 = .ok (.iload_n 0, 1) := by decide +kernel
theorem dX1_fits_28 : decode cX1_fits 28 = .ok (.if_icmp .ne 7, 3) := by decide +kernel
theorem dX1_fits_31 : decode cX1_fits 31 = .ok (.iconst 1, 1) := by decide +kernel
theorem dX1_fits_32 : decode cX1_fits 32 = .ok (.goto 4, 3) := by decide +kernel
theorem dX1_fits_35 : decode cX1_fits 35 = .ok (.iconst 0, 1) := by decide +kernel
theorem dX1_fits_36 : decode cX1_fits 36 = .ok (.ireturn, 1) := by decide +kernel
theorem dX1_endIn_0 : decode cX1_endIn 0 = .ok (.iload_n 2, 1) := by decide +kernel
theorem dX1_endIn_1 : decode cX1_endIn 1 = .ok (.aload_n 0, 1) := by decide +kernel
theorem dX1_endIn_2 : decode cX1_endIn 2 = .ok (.getfield 56, 3) := by decide +kernel
theorem dX1_endIn_5 : decode cX1_endIn 5 = .ok (.invokevirtual 60, 3) := by decide +kernel
theorem dX1_endIn_8 : decode cX1_endIn 8 = .ok (.iadd, 1) := by decide +kernel
theorem dX1_endIn_9 : decode cX1_endIn 9 = .ok (.istore_n 3, 1) := by decide +kernel
theorem dX1_endIn_10 : decode cX1_endIn 10 = .ok (.aload_n 0, 1) := by decide +kernel
theorem dX1_endIn_11 : decode cX1_endIn 11 = .ok (.getstatic 13, 3) := by decide +kernel
theorem dX1_endIn_14 : decode cX1_endIn 14 = .ok (.if_acmp .ne 11, 3) := by decide +kernel
theorem dX1_endIn_17 : decode cX1_endIn 17 = .ok (.aload_n 1, 1) := by decide +kernel
theorem dX1_endIn_18 : decode cX1_endIn 18 = .ok (.iload_n 3, 1) := by decide +kernel
theorem dX1_endIn_19 : decode cX1_endIn 19 = .ok (.invokevirtual 79, 3) := by decide +kernel
theorem dX1_endIn_22 : decode cX1_endIn 22 = .ok (.goto 4, 3) := by decide +kernel
theorem dX1_endIn_25 : decode cX1_endIn 25 = .ok (.iload_n 3, 1) := by decide +kernel
theorem dX1_endIn_26 : decode cX1_endIn 26 = .ok (.ireturn, 1) := by decide +kernel
theorem dX1_number_0 : decode cX1_number 0 = .ok (.iconst 0, 1) := by decide +kernel
theorem dX1_number_1 : decode cX1_number 1 = .ok (.istore 4, 2) := by decide +kernel
theorem dX1_number_3 : decode cX1_number 3 = .ok (.iconst 0, 1) := by decide +kernel
theorem dX1_number_4 : decode cX1_number 4 = .ok (.istore 5, 2) := by decide +kernel
theorem dX1_number_6 : decode cX1_number 6 = .ok (.iload 5, 2) := by decide +kernel
theorem dX1_number_8 : decode cX1_number 8 = .ok (.aload_n 0, 1) := by decide +kernel
theorem dX1_number_9 : decode cX1_number 9 = .ok (.getfield 56, 3) := by decide +kernel
theorem dX1_number_12 : decode cX1_number 12 = .ok (.invokevirtual 60, 3) := by decide +kernel
theorem dX1_number_15 : decode cX1_number 15 = .ok (.if_icmp .ge 44, 3) := by decide +kernel
theorem dX1_number_18 : decode cX1_number 18 = .ok (.aload_n 0, 1) := by decide +kernel
theorem dX1_number_19 : decode cX1_number 19 = .ok (.getfield 56, 3) := by decide +kernel
theorem dX1_number_22 : decode cX1_number 22 = .ok (.iload 5, 2) := by decide +kernel
theorem dX1_number_24 : decode cX1_number 24 = .ok (.invokevirtual 66, 3) := by decide +kernel
theorem dX1_number_27 : decode cX1_number 27 = .ok (.bipush 35, 2) := by decide +kernel
theorem dX1_number_29 : decode cX1_number 29 = .ok (.if_icmp .ne 24, 3) := by decide +kernel
theorem dX1_number_32 : decode cX1_number 32 = .ok (.iload 4, 2) := by decide +kernel
theorem dX1_number_34 : decode cX1_number 34 = .ok (.iload_n 3, 1) := by decide +kernel
theorem dX1_number_35 : decode cX1_number 35 = .ok (.if_icmp .ne 15, 3) := by decide +kernel
theorem dX1_number_38 : decode cX1_number 38 = .ok (.aload_n 1, 1) := by decide +kernel
theorem dX1_number_39 : decode cX1_number 39 = .ok (.iload_n 2, 1) := by decide +kernel
theorem dX1_number_40 : decode cX1_number 40 = .ok (.iload 5, 2) := by decide +kernel
theorem dX1_number_42 : decode cX1_number 42 = .ok (.iadd, 1) := by decide +kernel
theorem dX1_number_43 : decode cX1_number 43 = .ok (.invokevirtual 70, 3) := by decide +kernel
theorem dX1_number_46 : decode cX1_number 46 = .ok (.bipush 48, 2) := by decide +kernel
theorem dX1_number_48 : decode cX1_number 48 = .ok (.isub, 1) := by decide +kernel
theorem dX1_number_49 : decode cX1_number 49 = .ok (.ireturn, 1) := by decide +kernel
theorem dX1_number_50 : decode cX1_number 50 = .ok (.iinc 4 1, 3) := by decide +kernel
theorem dX1_number_53 : decode cX1_number 53 = .ok (.iinc 5 1, 3) := by decide +kernel
theorem dX1_number_56 : decode cX1_number 56 = .ok (.goto (-50), 3) := by decide +kernel
theorem dX1_number_59 : decode cX1_number 59 = .ok (.iconst 0, 1) := by decide +kernel
theorem dX1_number_60 : decode cX1_number 60 = .ok (.ireturn, 1) := by decide +kernel
theorem dX2_init_0 : decode cX2_init 0 = .ok (.aload_n 0, 1) := by decide +kernel
theorem dX2_init_1 : decode cX2_init 1 = .ok (.invokespecial 3, 3) := by decide +kernel
theorem dX2_init_4 : decode cX2_init 4 = .ok (.aload_n 0, 1) := by decide +kernel
theorem dX2_init_5 : decode cX2_init 5 = .ok (.bipush 60, 2) := by decide +kernel
theorem dX2_init_7 : decode cX2_init 7 = .ok (.newarray .int, 2) := by decide +kernel
theorem dX2_init_9 : decode cX2_init 9 = .ok (.putfield 9, 3) := by decide +kernel
theorem dX2_init_12 : decode cX2_init 12 = .ok (.aload_n 0, 1) := by decide +kernel
theorem dX2_init_13 : decode cX2_init 13 = .ok (.bipush 60, 2) := by decide +kernel
theorem dX2_init_15 : decode cX2_init 15 = .ok (.newarray .int, 2) := by decide +kernel
theorem dX2_init_17 : decode cX2_init 17 = .ok (.putfield 15, 3) := by decide +kernel
theorem dX2_init_20 : decode cX2_init 20 = .ok (.return_, 1) := by decide +kernel
theorem dX2_readAll_0 : decode cX2_readAll 0 = .ok (.aload_n 0, 1) := by decide +kernel
theorem dX2_readAll_1 : decode cX2_readAll 1 = .ok (.iconst 0, 1) := by decide +kernel
theorem dX2_readAll_2 : decode cX2_readAll 2 = .ok (.putfield 18, 3) := by decide +kernel
theorem dX2_readAll_5 : decode cX2_readAll 5 = .ok (.iconst 0, 1) := by decide +kernel
theorem dX2_readAll_6 : decode cX2_readAll 6 = .ok (.istore_n 2, 1) := by decide +kernel
theorem dX2_readAll_7 : decode cX2_readAll 7 = .ok (.aload_n 0, 1) := by decide +kernel
theorem dX2_readAll_8 : decode cX2_readAll 8 = .ok (.getfield 18, 3) := by decide +kernel
theorem dX2_readAll_11 : decode cX2_readAll 11 = .ok (.bipush 60, 2) := by decide +kernel
theorem dX2_readAll_13 : decode cX2_readAll 13 = .ok (.if_icmp .ge 97, 3) := by decide +kernel
theorem dX2_readAll_16 : decode cX2_readAll 16 = .ok (.aload_n 1, 1) := by decide +kernel
theorem dX2_readAll_17 : decode cX2_readAll 17 = .ok (.iload_n 2, 1) := by decide +kernel
theorem dX2_readAll_18 : decode cX2_readAll 18 = .ok (.invokestatic 22, 3) := by decide +kernel
theorem dX2_readAll_21 : decode cX2_readAll 21 = .ok (.istore_n 3, 1) := by decide +kernel
theorem dX2_readAll_22 : decode cX2_readAll 22 = .ok (.iload_n 3, 1) := by decide +kernel
theorem dX2_readAll_23 : decode cX2_readAll 23 = .ok (.iconst (-1), 1) := by decide +kernel
theorem dX2_readAll_24 : decode cX2_readAll 24 = .ok (.if_icmp .ne 11, 3) := by decide +kernel
theorem dX2_readAll_27 : decode cX2_readAll 27 = .ok (.iload_n 2, 1) := by decide +kernel
theorem dX2_readAll_28 : decode cX2_readAll 28 = .ok (.aload_n 1, 1) := by decide +kernel
theorem dX2_readAll_29 : decode cX2_readAll 29 = .ok (.iload_n 2, 1) := by decide +kernel
theorem dX2_readAll_30 : decode cX2_readAll 30 = .ok (.invokestatic 26, 3) := by decide +kernel
theorem dX2_readAll_33 : decode cX2_readAll 33 = .ok (.iadd, 1) := by decide +kernel
theorem dX2_readAll_34 : decode cX2_readAll 34 = .ok (.ireturn, 1) := by decide +kernel
theorem dX2_readAll_35 : decode cX2_readAll 35 = .ok (.aload_n 0, 1) := by decide +kernel
theorem dX2_readAll_36 : decode cX2_readAll 36 = .ok (.getfield 9, 3) := by decide +kernel
theorem dX2_readAll_39 : decode cX2_readAll 39 = .ok (.aload_n 0, 1) := by decide +kernel
theorem dX2_readAll_40 : decode cX2_readAll 40 = .ok (.getfield 18, 3) := by decide +kernel
theorem dX2_readAll_43 : decode cX2_readAll 43 = .ok (.iload_n 3, 1) := by decide +kernel
theorem dX2_readAll_44 : decode cX2_readAll 44 = .ok (.iastore, 1) := by decide +kernel
theorem dX2_readAll_45 : decode cX2_readAll 45 = .ok (.aload_n 0, 1) := by decide +kernel
theorem dX2_readAll_46 : decode cX2_readAll 46 = .ok (.getfield 15, 3) := by decide +kernel
theorem dX2_readAll_49 : decode cX2_readAll 49 = .ok (.aload_n 0, 1) := by decide +kernel
theorem dX2_readAll_50 : decode cX2_readAll 50 = .ok (.getfield 18, 3) := by decide +kernel
theorem dX2_readAll_53 : decode cX2_readAll 53 = .ok (.iload_n 2, 1) := by decide +kernel
theorem dX2_readAll_54 : decode cX2_readAll 54 = .ok (.iastore, 1) := by decide +kernel
theorem dX2_readAll_55 : decode cX2_readAll 55 = .ok (.aload_n 0, 1) := by decide +kernel
theorem dX2_readAll_56 : decode cX2_readAll 56 = .ok (.dup, 1) := by decide +kernel
theorem dX2_readAll_57 : decode cX2_readAll 57 = .ok (.getfield 18, 3) := by decide +kernel
theorem dX2_readAll_60 : decode cX2_readAll 60 = .ok (.iconst 1, 1) := by decide +kernel
theorem dX2_readAll_61 : decode cX2_readAll 61 = .ok (.iadd, 1) := by decide +kernel
theorem dX2_readAll_62 : decode cX2_readAll 62 = .ok (.putfield 18, 3) := by decide +kernel
theorem dX2_readAll_65 : decode cX2_readAll 65 = .ok (.getstatic 29, 3) := by decide +kernel
theorem dX2_readAll_68 : decode cX2_readAll 68 = .ok (.iload_n 3, 1) := by decide +kernel
theorem dX2_readAll_69 : decode cX2_readAll 69 = .ok (.aaload, 1) := by decide +kernel
theorem dX2_readAll_70 : decode cX2_readAll 70 = .ok (.aload_n 1, 1) := by decide +kernel
theorem dX2_readAll_71 : decode cX2_readAll 71 = .ok (.iload_n 2, 1) := by decide +kernel
theorem dX2_readAll_72 : decode cX2_readAll 72 = .ok (.invokevirtual 33, 3) := by decide +kernel
theorem dX2_readAll_75 : decode cX2_readAll 75 = .ok (.istore 4, 2) := by decide +kernel
theorem dX2_readAll_77 : decode cX2_readAll 77 = .ok (.iload 4, 2) := by decide +kernel
theorem dX2_readAll_79 : decode cX2_readAll 79 = .ok (.aload_n 1, 1) := by decide +kernel
theorem dX2_readAll_80 : decode cX2_readAll 80 = .ok (.getfield 38, 3) := by decide +kernel
theorem dX2_readAll_83 : decode cX2_readAll 83 = .ok (.if_icmp .ne 5, 3) := by decide +kernel
theorem dX2_readAll_86 : decode cX2_readAll 86 = .ok (.iconst (-1), 1) := by decide +kernel
theorem dX2_readAll_87 : decode cX2_readAll 87 = .ok (.ireturn, 1) := by decide +kernel
theorem dX2_readAll_88 : decode cX2_readAll 88 = .ok (.aload_n 1, 1) := by decide +kernel
theorem dX2_readAll_89 : decode cX2_readAll 89 = .ok (.iload 4, 2) := by decide +kernel
theorem dX2_readAll_91 : decode cX2_readAll 91 = .ok (.invokevirtual 43, 3) := by decide +kernel
theorem dX2_readAll_94 : decode cX2_readAll 94 = .ok (.bipush 59, 2) := by decide +kernel
theorem dX2_readAll_96 : decode cX2_readAll 96 = .ok (.if_icmp .eq 6, 3) := by decide +kernel
theorem dX2_readAll_99 : decode cX2_readAll 99 = .ok (.iload 4, 2) := by decide +kernel
theorem dX2_readAll_101 : decode cX2_readAll 101 = .ok (.ireturn, 1) := by decide +kernel
theorem dX2_readAll_102 : decode cX2_readAll 102 = .ok (.iload 4, 2) := by decide +kernel
theorem dX2_readAll_104 : decode cX2_readAll 104 = .ok (.iconst 1, 1) := by decide +kernel
theorem dX2_readAll_105 : decode cX2_readAll 105 = .ok (.iadd, 1) := by decide +kernel
theorem dX2_readAll_106 : decode cX2_readAll 106 = .ok (.istore_n 2, 1) := by decide +kernel
theorem dX2_readAll_107 : decode cX2_readAll 107 = .ok (.goto (-100), 3) := by decide +kernel
theorem dX2_readAll_110 : decode cX2_readAll 110 = .ok (.iload_n 2, 1) := by decide +kernel
theorem dX2_readAll_111 : decode cX2_readAll 111 = .ok (.ireturn, 1) := by decide +kernel
theorem dX2_kindAt_0 : decode cX2_kindAt 0 = .ok (.iconst 0, 1) := by decide +kernel
theorem dX2_kindAt_1 : decode cX2_kindAt 1 = .ok (.istore_n 2, 1) := by decide +kernel
theorem dX2_kindAt_2 : decode cX2_kindAt 2 = .ok (.iload_n 2, 1) := by decide +kernel
theorem dX2_kindAt_3 : decode cX2_kindAt 3 = .ok (.getstatic 29, 3) := by decide +kernel
theorem dX2_kindAt_6 : decode cX2_kindAt 6 = .ok (.arraylength, 1) := by decide +kernel
theorem dX2_kindAt_7 : decode cX2_kindAt 7 = .ok (.if_icmp .ge 35, 3) := by decide +kernel
theorem dX2_kindAt_10 : decode cX2_kindAt 10 = .ok (.getstatic 29, 3) := by decide +kernel
theorem dX2_kindAt_13 : decode cX2_kindAt 13 = .ok (.iload_n 2, 1) := by decide +kernel
theorem dX2_kindAt_14 : decode cX2_kindAt 14 = .ok (.aaload, 1) := by decide +kernel
theorem dX2_kindAt_15 : decode cX2_kindAt 15 = .ok (.aload_n 0, 1) := by decide +kernel
theorem dX2_kindAt_16 : decode cX2_kindAt 16 = .ok (.iload_n 1, 1) := by decide +kernel
theorem dX2_kindAt_17 : decode cX2_kindAt 17 = .ok (.invokevirtual 47, 3) := by decide +kernel
theorem dX2_kindAt_20 : decode cX2_kindAt 20 = .ok (.getstatic 29, 3) := by decide +kernel
theorem dX2_kindAt_23 : decode cX2_kindAt 23 = .ok (.iload_n 2, 1) := by decide +kernel
theorem dX2_kindAt_24 : decode cX2_kindAt 24 = .ok (.aaload, 1) := by decide +kernel
theorem dX2_kindAt_25 : decode cX2_kindAt 25 = .ok (.getfield 50, 3) := by decide +kernel
theorem dX2_kindAt_28 : decode cX2_kindAt 28 = .ok (.invokevirtual 54, 3) := by decide +kernel
theorem dX2_kindAt_31 : decode cX2_kindAt 31 = .ok (.if_icmp .ne 5, 3) := by decide +kernel
theorem dX2_kindAt_34 : decode cX2_kindAt 34 = .ok (.iload_n 2, 1) := by decide +kernel
theorem dX2_kindAt_35 : decode cX2_kindAt 35 = .ok (.ireturn, 1) := by decide +kernel
theorem dX2_kindAt_36 : decode cX2_kindAt 36 = .ok (.iinc 2 1, 3) := by decide +kernel
theorem dX2_kindAt_39 : decode cX2_kindAt 39 = .ok (.goto (-37), 3) := by decide +kernel
theorem dX2_kindAt_42 : decode cX2_kindAt 42 = .ok (.iconst (-1), 1) := by decide +kernel
theorem dX2_kindAt_43 : decode cX2_kindAt 43 = .ok (.ireturn, 1) := by decide +kernel
theorem dX2_longestMatch_0 : decode cX2_longestMatch 0 = .ok (.iconst 0, 1) := by decide +kernel
theorem dX2_longestMatch_1 : decode cX2_longestMatch 1 = .ok (.istore_n 2, 1) := by decide +kernel
theorem dX2_longestMatch_2 : decode cX2_longestMatch 2 = .ok (.iconst 0, 1) := by decide +kernel
theorem dX2_longestMatch_3 : decode cX2_longestMatch 3 = .ok (.istore_n 3, 1) := by decide +kernel
theorem dX2_longestMatch_4 : decode cX2_longestMatch 4 = .ok (.iload_n 3, 1) := by decide +kernel
theorem dX2_longestMatch_5 : decode cX2_longestMatch 5 = .ok (.getstatic 29, 3) := by decide +kernel
theorem dX2_longestMatch_8 : decode cX2_longestMatch 8 = .ok (.arraylength, 1) := by decide +kernel
theorem dX2_longestMatch_9 : decode cX2_longestMatch 9 = .ok (.if_icmp .ge 24, 3) := by decide +kernel
theorem dX2_longestMatch_12 : decode cX2_longestMatch 12 = .ok (.iload_n 2, 1) := by decide +kernel
theorem dX2_longestMatch_13 : decode cX2_longestMatch 13 = .ok (.getstatic 29, 3) := by decide +kernel
theorem dX2_longestMatch_16 : decode cX2_longestMatch 16 = .ok (.iload_n 3, 1) := by decide +kernel
theorem dX2_longestMatch_17 : decode cX2_longestMatch 17 = .ok (.aaload, 1) := by decide +kernel
theorem dX2_longestMatch_18 : decode cX2_longestMatch 18 = .ok (.aload_n 0, 1) := by decide +kernel
theorem dX2_longestMatch_19 : decode cX2_longestMatch 19 = .ok (.iload_n 1, 1) := by decide +kernel
theorem dX2_longestMatch_20 : decode cX2_longestMatch 20 = .ok (.invokevirtual 47, 3) := by decide +kernel
theorem dX2_longestMatch_23 : decode cX2_longestMatch 23 = .ok (.invokestatic 59, 3) := by decide +kernel
theorem dX2_longestMatch_26 : decode cX2_longestMatch 26 = .ok (.istore_n 2, 1) := by decide +kernel
theorem dX2_longestMatch_27 : decode cX2_longestMatch 27 = .ok (.iinc 3 1, 3) := by decide +kernel
theorem dX2_longestMatch_30 : decode cX2_longestMatch 30 = .ok (.goto (-26), 3) := by decide +kernel
theorem dX2_longestMatch_33 : decode cX2_longestMatch 33 = .ok (.iload_n 2, 1) := by decide +kernel
theorem dX2_longestMatch_34 : decode cX2_longestMatch 34 = .ok (.ireturn, 1) := by decide +kernel
theorem dX3_init_0 : decode cX3_init 0 = .ok (.aload_n 0, 1) := by decide +kernel
theorem dX3_init_1 : decode cX3_init 1 = .ok (.invokespecial 3, 3) := by decide +kernel
theorem dX3_init_4 : decode cX3_init 4 = .ok (.aload_n 0, 1) := by decide +kernel
theorem dX3_init_5 : decode cX3_init 5 = .ok (.iconst 4, 1) := by decide +kernel
theorem dX3_init_6 : decode cX3_init 6 = .ok (.newarray .int, 2) := by decide +kernel
theorem dX3_init_8 : decode cX3_init 8 = .ok (.putfield 9, 3) := by decide +kernel
theorem dX3_init_11 : decode cX3_init 11 = .ok (.aload_n 0, 1) := by decide +kernel
theorem dX3_init_12 : decode cX3_init 12 = .ok (.iconst 4, 1) := by decide +kernel
theorem dX3_init_13 : decode cX3_init 13 = .ok (.newarray .int, 2) := by decide +kernel
theorem dX3_init_15 : decode cX3_init 15 = .ok (.putfield 15, 3) := by decide +kernel
theorem dX3_init_18 : decode cX3_init 18 = .ok (.aload_n 0, 1) := by decide +kernel
theorem dX3_init_19 : decode cX3_init 19 = .ok (.iconst 4, 1) := by decide +kernel
theorem dX3_init_20 : decode cX3_init 20 = .ok (.newarray .int, 2) := by decide +kernel
theorem dX3_init_22 : decode cX3_init 22 = .ok (.putfield 18, 3) := by decide +kernel
theorem dX3_init_25 : decode cX3_init 25 = .ok (.return_, 1) := by decide +kernel
theorem dX3_copyFrom_0 : decode cX3_copyFrom 0 = .ok (.aload_n 1, 1) := by decide +kernel
theorem dX3_copyFrom_1 : decode cX3_copyFrom 1 = .ok (.getfield 9, 3) := by decide +kernel
theorem dX3_copyFrom_4 : decode cX3_copyFrom 4 = .ok (.iconst 0, 1) := by decide +kernel
theorem dX3_copyFrom_5 : decode cX3_copyFrom 5 = .ok (.aload_n 0, 1) := by decide +kernel
theorem dX3_copyFrom_6 : decode cX3_copyFrom 6 = .ok (.getfield 9, 3) := by decide +kernel
theorem dX3_copyFrom_9 : decode cX3_copyFrom 9 = .ok (.iconst 0, 1) := by decide +kernel
theorem dX3_copyFrom_10 : decode cX3_copyFrom 10 = .ok (.iconst 4, 1) := by decide +kernel
theorem dX3_copyFrom_11 : decode cX3_copyFrom 11 = .ok (.invokestatic 21, 3) := by decide +kernel
theorem dX3_copyFrom_14 : decode cX3_copyFrom 14 = .ok (.aload_n 1, 1) := by decide +kernel
theorem dX3_copyFrom_15 : decode cX3_copyFrom 15 = .ok (.getfield 15, 3) := by decide +kernel
theorem dX3_copyFrom_18 : decode cX3_copyFrom 18 = .ok (.iconst 0, 1) := by decide +kernel
theorem dX3_copyFrom_19 : decode cX3_copyFrom 19 = .ok (.aload_n 0, 1) := by decide +kernel
theorem dX3_copyFrom_20 : decode cX3_copyFrom 20 = .ok (.getfield 15, 3) := by decide +kernel
theorem dX3_copyFrom_23 : decode cX3_copyFrom 23 = .ok (.iconst 0, 1) := by decide +kernel
theorem dX3_copyFrom_24 : decode cX3_copyFrom 24 = .ok (.iconst 4, 1) := by decide +kernel
theorem dX3_copyFrom_25 : decode cX3_copyFrom 25 = .ok (.invokestatic 21, 3) := by decide +kernel
theorem dX3_copyFrom_28 : decode cX3_copyFrom 28 = .ok (.aload_n 1, 1) := by decide +kernel
theorem dX3_copyFrom_29 : decode cX3_copyFrom 29 = .ok (.getfield 18, 3) := by decide +kernel
theorem dX3_copyFrom_32 : decode cX3_copyFrom 32 = .ok (.iconst 0, 1) := by decide +kernel
theorem dX3_copyFrom_33 : decode cX3_copyFrom 33 = .ok (.aload_n 0, 1) := by decide +kernel
theorem dX3_copyFrom_34 : decode cX3_copyFrom 34 = .ok (.getfield 18, 3) := by decide +kernel
theorem dX3_copyFrom_37 : decode cX3_copyFrom 37 = .ok (.iconst 0, 1) := by decide +kernel
theorem dX3_copyFrom_38 : decode cX3_copyFrom 38 = .ok (.iconst 4, 1) := by decide +kernel
theorem dX3_copyFrom_39 : decode cX3_copyFrom 39 = .ok (.invokestatic 21, 3) := by decide +kernel
theorem dX3_copyFrom_42 : decode cX3_copyFrom 42 = .ok (.aload_n 0, 1) := by decide +kernel
theorem dX3_copyFrom_43 : decode cX3_copyFrom 43 = .ok (.aload_n 1, 1) := by decide +kernel
theorem dX3_copyFrom_44 : decode cX3_copyFrom 44 = .ok (.getfield 27, 3) := by decide +kernel
theorem dX3_copyFrom_47 : decode cX3_copyFrom 47 = .ok (.putfield 27, 3) := by decide +kernel
theorem dX3_copyFrom_50 : decode cX3_copyFrom 50 = .ok (.aload_n 0, 1) := by decide +kernel
theorem dX3_copyFrom_51 : decode cX3_copyFrom 51 = .ok (.aload_n 1, 1) := by decide +kernel
theorem dX3_copyFrom_52 : decode cX3_copyFrom 52 = .ok (.getfield 31, 3) := by decide +kernel
theorem dX3_copyFrom_55 : decode cX3_copyFrom 55 = .ok (.putfield 31, 3) := by decide +kernel
theorem dX3_copyFrom_58 : decode cX3_copyFrom 58 = .ok (.aload_n 0, 1) := by decide +kernel
theorem dX3_copyFrom_59 : decode cX3_copyFrom 59 = .ok (.aload_n 1, 1) := by decide +kernel
theorem dX3_copyFrom_60 : decode cX3_copyFrom 60 = .ok (.getfield 34, 3) := by decide +kernel
theorem dX3_copyFrom_63 : decode cX3_copyFrom 63 = .ok (.putfield 34, 3) := by decide +kernel
theorem dX3_copyFrom_66 : decode cX3_copyFrom 66 = .ok (.aload_n 0, 1) := by decide +kernel
theorem dX3_copyFrom_67 : decode cX3_copyFrom 67 = .ok (.aload_n 1, 1) := by decide +kernel
theorem dX3_copyFrom_68 : decode cX3_copyFrom 68 = .ok (.getfield 37, 3) := by decide +kernel
theorem dX3_copyFrom_71 : decode cX3_copyFrom 71 = .ok (.putfield 37, 3) := by decide +kernel
theorem dX3_copyFrom_74 : decode cX3_copyFrom 74 = .ok (.aload_n 0, 1) := by decide +kernel
theorem dX3_copyFrom_75 : decode cX3_copyFrom 75 = .ok (.aload_n 1, 1) := by decide +kernel
theorem dX3_copyFrom_76 : decode cX3_copyFrom 76 = .ok (.getfield 40, 3) := by decide +kernel
theorem dX3_copyFrom_79 : decode cX3_copyFrom 79 = .ok (.putfield 40, 3) := by decide +kernel
theorem dX3_copyFrom_82 : decode cX3_copyFrom 82 = .ok (.return_, 1) := by decide +kernel
theorem dX3_placeOf_0 : decode cX3_placeOf 0 = .ok (.iconst 0, 1) := by decide +kernel
theorem dX3_placeOf_1 : decode cX3_placeOf 1 = .ok (.istore_n 2, 1) := by decide +kernel
theorem dX3_placeOf_2 : decode cX3_placeOf 2 = .ok (.iload_n 2, 1) := by decide +kernel
theorem dX3_placeOf_3 : decode cX3_placeOf 3 = .ok (.aload_n 0, 1) := by decide +kernel
theorem dX3_placeOf_4 : decode cX3_placeOf 4 = .ok (.getfield 27, 3) := by decide +kernel
theorem dX3_placeOf_7 : decode cX3_placeOf 7 = .ok (.if_icmp .ge 21, 3) := by decide +kernel
theorem dX3_placeOf_10 : decode cX3_placeOf 10 = .ok (.aload_n 0, 1) := by decide +kernel
theorem dX3_placeOf_11 : decode cX3_placeOf 11 = .ok (.getfield 9, 3) := by decide +kernel
theorem dX3_placeOf_14 : decode cX3_placeOf 14 = .ok (.iload_n 2, 1) := by decide +kernel
theorem dX3_placeOf_15 : decode cX3_placeOf 15 = .ok (.iaload, 1) := by decide +kernel
theorem dX3_placeOf_16 : decode cX3_placeOf 16 = .ok (.iload_n 1, 1) := by decide +kernel
theorem dX3_placeOf_17 : decode cX3_placeOf 17 = .ok (.if_icmp .ne 5, 3) := by decide +kernel
theorem dX3_placeOf_20 : decode cX3_placeOf 20 = .ok (.iload_n 2, 1) := by decide +kernel
theorem dX3_placeOf_21 : decode cX3_placeOf 21 = .ok (.ireturn, 1) := by decide +kernel
theorem dX3_placeOf_22 : decode cX3_placeOf 22 = .ok (.iinc 2 1, 3) := by decide +kernel
theorem dX3_placeOf_25 : decode cX3_placeOf 25 = .ok (.goto (-23), 3) := by decide +kernel
theorem dX3_placeOf_28 : decode cX3_placeOf 28 = .ok (.iconst (-1), 1) := by decide +kernel
theorem dX3_placeOf_29 : decode cX3_placeOf 29 = .ok (.ireturn, 1) := by decide +kernel
theorem dX3_placeIn_0 : decode cX3_placeIn 0 = .ok (.iconst 0, 1) := by decide +kernel
theorem dX3_placeIn_1 : decode cX3_placeIn 1 = .ok (.istore_n 2, 1) := by decide +kernel
theorem dX3_placeIn_2 : decode cX3_placeIn 2 = .ok (.iload_n 2, 1) := by decide +kernel
theorem dX3_placeIn_3 : decode cX3_placeIn 3 = .ok (.aload_n 0, 1) := by decide +kernel
theorem dX3_placeIn_4 : decode cX3_placeIn 4 = .ok (.getfield 27, 3) := by decide +kernel
theorem dX3_placeIn_7 : decode cX3_placeIn 7 = .ok (.if_icmp .ge 21, 3) := by decide +kernel
theorem dX3_placeIn_10 : decode cX3_placeIn 10 = .ok (.aload_n 0, 1) := by decide +kernel
theorem dX3_placeIn_11 : decode cX3_placeIn 11 = .ok (.getfield 15, 3) := by decide +kernel
theorem dX3_placeIn_14 : decode cX3_placeIn 14 = .ok (.iload_n 2, 1) := by decide +kernel
theorem dX3_placeIn_15 : decode cX3_placeIn 15 = .ok (.iaload, 1) := by decide +kernel
theorem dX3_placeIn_16 : decode cX3_placeIn 16 = .ok (.iload_n 1, 1) := by decide +kernel
theorem dX3_placeIn_17 : decode cX3_placeIn 17 = .ok (.if_icmp .ne 5, 3) := by decide +kernel
theorem dX3_placeIn_20 : decode cX3_placeIn 20 = .ok (.iload_n 2, 1) := by decide +kernel
theorem dX3_placeIn_21 : decode cX3_placeIn 21 = .ok (.ireturn, 1) := by decide +kernel
theorem dX3_placeIn_22 : decode cX3_placeIn 22 = .ok (.iinc 2 1, 3) := by decide +kernel
theorem dX3_placeIn_25 : decode cX3_placeIn 25 = .ok (.goto (-23), 3) := by decide +kernel
theorem dX3_placeIn_28 : decode cX3_placeIn 28 = .ok (.iconst (-1), 1) := by decide +kernel
theorem dX3_placeIn_29 : decode cX3_placeIn 29 = .ok (.ireturn, 1) := by decide +kernel
theorem dX3_occupies_0 : decode cX3_occupies 0 = .ok (.iconst 0, 1) := by decide +kernel
theorem dX3_occupies_1 : decode cX3_occupies 1 = .ok (.istore_n 3, 1) := by decide +kernel
theorem dX3_occupies_2 : decode cX3_occupies 2 = .ok (.iload_n 3, 1) := by decide +kernel
theorem dX3_occupies_3 : decode cX3_occupies 3 = .ok (.aload_n 0, 1) := by decide +kernel
theorem dX3_occupies_4 : decode cX3_occupies 4 = .ok (.getfield 27, 3) := by decide +kernel
theorem dX3_occupies_7 : decode cX3_occupies 7 = .ok (.if_icmp .ge 51, 3) := by decide +kernel
theorem dX3_occupies_10 : decode cX3_occupies 10 = .ok (.aload_n 0, 1) := by decide +kernel
theorem dX3_occupies_11 : decode cX3_occupies 11 = .ok (.getfield 15, 3) := by decide +kernel
theorem dX3_occupies_14 : decode cX3_occupies 14 = .ok (.iload_n 3, 1) := by decide +kernel
theorem dX3_occupies_15 : decode cX3_occupies 15 = .ok (.iaload, 1) := by decide +kernel
theorem dX3_occupies_16 : decode cX3_occupies 16 = .ok (.iload_n 1, 1) := by decide +kernel
theorem dX3_occupies_17 : decode cX3_occupies 17 = .ok (.if_icmp .eq 16, 3) := by decide +kernel
theorem dX3_occupies_20 : decode cX3_occupies 20 = .ok (.aload_n 0, 1) := by decide +kernel
theorem dX3_occupies_21 : decode cX3_occupies 21 = .ok (.getfield 15, 3) := by decide +kernel
theorem dX3_occupies_24 : decode cX3_occupies 24 = .ok (.iload_n 3, 1) := by decide +kernel
theorem dX3_occupies_25 : decode cX3_occupies 25 = .ok (.iaload, 1) := by decide +kernel
theorem dX3_occupies_26 : decode cX3_occupies 26 = .ok (.invokestatic 43, 3) := by decide +kernel
theorem dX3_occupies_29 : decode cX3_occupies 29 = .ok (.iload_n 1, 1) := by decide +kernel
theorem dX3_occupies_30 : decode cX3_occupies 30 = .ok (.if_icmp .ne 7, 3) := by decide +kernel
theorem dX3_occupies_33 : decode cX3_occupies 33 = .ok (.iconst 1, 1) := by decide +kernel
theorem dX3_occupies_34 : decode cX3_occupies 34 = .ok (.goto 4, 3) := by decide +kernel
theorem dX3_occupies_37 : decode cX3_occupies 37 = .ok (.iconst 0, 1) := by decide +kernel
theorem dX3_occupies_38 : decode cX3_occupies 38 = .ok (.istore 4, 2) := by decide +kernel
theorem dX3_occupies_40 : decode cX3_occupies 40 = .ok (.iload 4, 2) := by decide +kernel
theorem dX3_occupies_42 : decode cX3_occupies 42 = .ok (.ifCond .eq 10, 3) := by decide +kernel
theorem dX3_occupies_45 : decode cX3_occupies 45 = .ok (.iload_n 3, 1) := by decide +kernel
theorem dX3_occupies_46 : decode cX3_occupies 46 = .ok (.iload_n 2, 1) := by decide +kernel
theorem dX3_occupies_47 : decode cX3_occupies 47 = .ok (.if_icmp .eq 5, 3) := by decide +kernel
theorem dX3_occupies_50 : decode cX3_occupies 50 = .ok (.iconst 1, 1) := by decide +kernel
theorem dX3_occupies_51 : decode cX3_occupies 51 = .ok (.ireturn, 1) := by decide +kernel
theorem dX3_occupies_52 : decode cX3_occupies 52 = .ok (.iinc 3 1, 3) := by decide +kernel
theorem dX3_occupies_55 : decode cX3_occupies 55 = .ok (.goto (-53), 3) := by decide +kernel
theorem dX3_occupies_58 : decode cX3_occupies 58 = .ok (.iconst 0, 1) := by decide +kernel
theorem dX3_occupies_59 : decode cX3_occupies 59 = .ok (.ireturn, 1) := by decide +kernel
theorem dX3_placeOfRank_0 : decode cX3_placeOfRank 0 = .ok (.iconst 0, 1) := by decide +kernel
theorem dX3_placeOfRank_1 : decode cX3_placeOfRank 1 = .ok (.istore_n 2, 1) := by decide +kernel
theorem dX3_placeOfRank_2 : decode cX3_placeOfRank 2 = .ok (.iload_n 2, 1) := by decide +kernel
theorem dX3_placeOfRank_3 : decode cX3_placeOfRank 3 = .ok (.aload_n 0, 1) := by decide +kernel
theorem dX3_placeOfRank_4 : decode cX3_placeOfRank 4 = .ok (.getfield 27, 3) := by decide +kernel
theorem dX3_placeOfRank_7 : decode cX3_placeOfRank 7 = .ok (.if_icmp .ge 20, 3) := by decide +kernel
theorem dX3_placeOfRank_10 : decode cX3_placeOfRank 10 = .ok (.aload_n 0, 1) := by decide +kernel
theorem dX3_placeOfRank_11 : decode cX3_placeOfRank 11 = .ok (.iload_n 2, 1) := by decide +kernel
theorem dX3_placeOfRank_12 : decode cX3_placeOfRank 12 = .ok (.invokevirtual 47, 3) := by decide +kernel
theorem dX3_placeOfRank_15 : decode cX3_placeOfRank 15 = .ok (.iload_n 1, 1) := by decide +kernel
theorem dX3_placeOfRank_16 : decode cX3_placeOfRank 16 = .ok (.if_icmp .ne 5, 3) := by decide +kernel
theorem dX3_placeOfRank_19 : decode cX3_placeOfRank 19 = .ok (.iload_n 2, 1) := by decide +kernel
theorem dX3_placeOfRank_20 : decode cX3_placeOfRank 20 = .ok (.ireturn, 1) := by decide +kernel
theorem dX3_placeOfRank_21 : decode cX3_placeOfRank 21 = .ok (.iinc 2 1, 3) := by decide +kernel
theorem dX3_placeOfRank_24 : decode cX3_placeOfRank 24 = .ok (.goto (-22), 3) := by decide +kernel
theorem dX3_placeOfRank_27 : decode cX3_placeOfRank 27 = .ok (.iconst (-1), 1) := by decide +kernel
theorem dX3_placeOfRank_28 : decode cX3_placeOfRank 28 = .ok (.ireturn, 1) := by decide +kernel
theorem dX3_rankOf_0 : decode cX3_rankOf 0 = .ok (.iconst 0, 1) := by decide +kernel
theorem dX3_rankOf_1 : decode cX3_rankOf 1 = .ok (.istore_n 2, 1) := by decide +kernel
theorem dX3_rankOf_2 : decode cX3_rankOf 2 = .ok (.iconst 0, 1) := by decide +kernel
theorem dX3_rankOf_3 : decode cX3_rankOf 3 = .ok (.istore_n 3, 1) := by decide +kernel
theorem dX3_rankOf_4 : decode cX3_rankOf 4 = .ok (.iload_n 3, 1) := by decide +kernel
theorem dX3_rankOf_5 : decode cX3_rankOf 5 = .ok (.aload_n 0, 1) := by decide +kernel
theorem dX3_rankOf_6 : decode cX3_rankOf 6 = .ok (.getfield 27, 3) := by decide +kernel
theorem dX3_rankOf_9 : decode cX3_rankOf 9 = .ok (.if_icmp .ge 76, 3) := by decide +kernel
theorem dX3_rankOf_12 : decode cX3_rankOf 12 = .ok (.aload_n 0, 1) := by decide +kernel
theorem dX3_rankOf_13 : decode cX3_rankOf 13 = .ok (.getfield 18, 3) := by decide +kernel
theorem dX3_rankOf_16 : decode cX3_rankOf 16 = .ok (.iload_n 3, 1) := by decide +kernel
theorem dX3_rankOf_17 : decode cX3_rankOf 17 = .ok (.iaload, 1) := by decide +kernel
theorem dX3_rankOf_18 : decode cX3_rankOf 18 = .ok (.aload_n 0, 1) := by decide +kernel
theorem dX3_rankOf_19 : decode cX3_rankOf 19 = .ok (.getfield 18, 3) := by decide +kernel
theorem dX3_rankOf_22 : decode cX3_rankOf 22 = .ok (.iload_n 1, 1) := by decide +kernel
theorem dX3_rankOf_23 : decode cX3_rankOf 23 = .ok (.iaload, 1) := by decide +kernel
theorem dX3_rankOf_24 : decode cX3_rankOf 24 = .ok (.if_icmp .le 7, 3) := by decide +kernel
theorem dX3_rankOf_27 : decode cX3_rankOf 27 = .ok (.iconst 1, 1) := by decide +kernel
theorem dX3_rankOf_28 : decode cX3_rankOf 28 = .ok (.goto 4, 3) := by decide +kernel
theorem dX3_rankOf_31 : decode cX3_rankOf 31 = .ok (.iconst 0, 1) := by decide +kernel
theorem dX3_rankOf_32 : decode cX3_rankOf 32 = .ok (.istore 4, 2) := by decide +kernel
theorem dX3_rankOf_34 : decode cX3_rankOf 34 = .ok (.aload_n 0, 1) := by decide +kernel
theorem dX3_rankOf_35 : decode cX3_rankOf 35 = .ok (.getfield 18, 3) := by decide +kernel
theorem dX3_rankOf_38 : decode cX3_rankOf 38 = .ok (.iload_n 3, 1) := by decide +kernel
theorem dX3_rankOf_39 : decode cX3_rankOf 39 = .ok (.iaload, 1) := by decide +kernel
theorem dX3_rankOf_40 : decode cX3_rankOf 40 = .ok (.aload_n 0, 1) := by decide +kernel
theorem dX3_rankOf_41 : decode cX3_rankOf 41 = .ok (.getfield 18, 3) := by decide +kernel
theorem dX3_rankOf_44 : decode cX3_rankOf 44 = .ok (.iload_n 1, 1) := by decide +kernel
theorem dX3_rankOf_45 : decode cX3_rankOf 45 = .ok (.iaload, 1) := by decide +kernel
theorem dX3_rankOf_46 : decode cX3_rankOf 46 = .ok (.if_icmp .ne 12, 3) := by decide +kernel
theorem dX3_rankOf_49 : decode cX3_rankOf 49 = .ok (.iload_n 3, 1) := by decide +kernel
theorem dX3_rankOf_50 : decode cX3_rankOf 50 = .ok (.iload_n 1, 1) := by decide +kernel
theorem dX3_rankOf_51 : decode cX3_rankOf 51 = .ok (.if_icmp .ge 7, 3) := by decide +kernel
theorem dX3_rankOf_54 : decode cX3_rankOf 54 = .ok (.iconst 1, 1) := by decide +kernel
theorem dX3_rankOf_55 : decode cX3_rankOf 55 = .ok (.goto 4, 3) := by decide +kernel
theorem dX3_rankOf_58 : decode cX3_rankOf 58 = .ok (.iconst 0, 1) := by decide +kernel
theorem dX3_rankOf_59 : decode cX3_rankOf 59 = .ok (.istore 5, 2) := by decide +kernel
theorem dX3_rankOf_61 : decode cX3_rankOf 61 = .ok (.iload_n 2, 1) := by decide +kernel
theorem dX3_rankOf_62 : decode cX3_rankOf 62 = .ok (.iload 4, 2) := by decide +kernel
theorem dX3_rankOf_64 : decode cX3_rankOf 64 = .ok (.ifCond .ne 8, 3) := by decide +kernel
theorem dX3_rankOf_67 : decode cX3_rankOf 67 = .ok (.iload 5, 2) := by decide +kernel
theorem dX3_rankOf_69 : decode cX3_rankOf 69 = .ok (.ifCond .eq 7, 3) := by decide +kernel
theorem dX3_rankOf_72 : decode cX3_rankOf 72 = .ok (.iconst 1, 1) := by decide +kernel
theorem dX3_rankOf_73 : decode cX3_rankOf 73 = .ok (.goto 4, 3) := by decide +kernel
theorem dX3_rankOf_76 : decode cX3_rankOf 76 = .ok (.iconst 0, 1) := by decide +kernel
theorem dX3_rankOf_77 : decode cX3_rankOf 77 = .ok (.iadd, 1) := by decide +kernel
theorem dX3_rankOf_78 : decode cX3_rankOf 78 = .ok (.istore_n 2, 1) := by decide +kernel
theorem dX3_rankOf_79 : decode cX3_rankOf 79 = .ok (.iinc 3 1, 3) := by decide +kernel
theorem dX3_rankOf_82 : decode cX3_rankOf 82 = .ok (.goto (-78), 3) := by decide +kernel
theorem dX3_rankOf_85 : decode cX3_rankOf 85 = .ok (.iload_n 2, 1) := by decide +kernel
theorem dX3_rankOf_86 : decode cX3_rankOf 86 = .ok (.ireturn, 1) := by decide +kernel
theorem dX3_presentFares_0 : decode cX3_presentFares 0 = .ok (.iconst 0, 1) := by decide +kernel
theorem dX3_presentFares_1 : decode cX3_presentFares 1 = .ok (.istore_n 1, 1) := by decide +kernel
theorem dX3_presentFares_2 : decode cX3_presentFares 2 = .ok (.iconst 0, 1) := by decide +kernel
theorem dX3_presentFares_3 : decode cX3_presentFares 3 = .ok (.istore_n 2, 1) := by decide +kernel
theorem dX3_presentFares_4 : decode cX3_presentFares 4 = .ok (.iload_n 2, 1) := by decide +kernel
theorem dX3_presentFares_5 : decode cX3_presentFares 5 = .ok (.aload_n 0, 1) := by decide +kernel
theorem dX3_presentFares_6 : decode cX3_presentFares 6 = .ok (.getfield 27, 3) := by decide +kernel
theorem dX3_presentFares_9 : decode cX3_presentFares 9 = .ok (.if_icmp .ge 18, 3) := by decide +kernel
theorem dX3_presentFares_12 : decode cX3_presentFares 12 = .ok (.iload_n 1, 1) := by decide +kernel
theorem dX3_presentFares_13 : decode cX3_presentFares 13 = .ok (.aload_n 0, 1) := by decide +kernel
theorem dX3_presentFares_14 : decode cX3_presentFares 14 = .ok (.getfield 18, 3) := by decide +kernel
theorem dX3_presentFares_17 : decode cX3_presentFares 17 = .ok (.iload_n 2, 1) := by decide +kernel
theorem dX3_presentFares_18 : decode cX3_presentFares 18 = .ok (.iaload, 1) := by decide +kernel
theorem dX3_presentFares_19 : decode cX3_presentFares 19 = .ok (.iadd, 1) := by decide +kernel
theorem dX3_presentFares_20 : decode cX3_presentFares 20 = .ok (.istore_n 1, 1) := by decide +kernel
theorem dX3_presentFares_21 : decode cX3_presentFares 21 = .ok (.iinc 2 1, 3) := by decide +kernel
theorem dX3_presentFares_24 : decode cX3_presentFares 24 = .ok (.goto (-20), 3) := by decide +kernel
theorem dX3_presentFares_27 : decode cX3_presentFares 27 = .ok (.iload_n 1, 1) := by decide +kernel
theorem dX3_presentFares_28 : decode cX3_presentFares 28 = .ok (.ireturn, 1) := by decide +kernel
theorem dX3_launch_0 : decode cX3_launch 0 = .ok (.aload_n 0, 1) := by decide +kernel
theorem dX3_launch_1 : decode cX3_launch 1 = .ok (.getfield 31, 3) := by decide +kernel
theorem dX3_launch_4 : decode cX3_launch 4 = .ok (.istore_n 2, 1) := by decide +kernel
theorem dX3_launch_5 : decode cX3_launch 5 = .ok (.aload_n 0, 1) := by decide +kernel
theorem dX3_launch_6 : decode cX3_launch 6 = .ok (.getfield 27, 3) := by decide +kernel
theorem dX3_launch_9 : decode cX3_launch 9 = .ok (.iconst 4, 1) := by decide +kernel
theorem dX3_launch_10 : decode cX3_launch 10 = .ok (.if_icmp .ge 53, 3) := by decide +kernel
theorem dX3_launch_13 : decode cX3_launch 13 = .ok (.aload_n 0, 1) := by decide +kernel
theorem dX3_launch_14 : decode cX3_launch 14 = .ok (.getfield 9, 3) := by decide +kernel
theorem dX3_launch_17 : decode cX3_launch 17 = .ok (.aload_n 0, 1) := by decide +kernel
theorem dX3_launch_18 : decode cX3_launch 18 = .ok (.getfield 27, 3) := by decide +kernel
theorem dX3_launch_21 : decode cX3_launch 21 = .ok (.iload_n 2, 1) := by decide +kernel
theorem dX3_launch_22 : decode cX3_launch 22 = .ok (.iastore, 1) := by decide +kernel
theorem dX3_launch_23 : decode cX3_launch 23 = .ok (.aload_n 0, 1) := by decide +kernel
theorem dX3_launch_24 : decode cX3_launch 24 = .ok (.getfield 15, 3) := by decide +kernel
theorem dX3_launch_27 : decode cX3_launch 27 = .ok (.aload_n 0, 1) := by decide +kernel
theorem dX3_launch_28 : decode cX3_launch 28 = .ok (.getfield 27, 3) := by decide +kernel
theorem dX3_launch_31 : decode cX3_launch 31 = .ok (.iload_n 1, 1) := by decide +kernel
theorem dX3_launch_32 : decode cX3_launch 32 = .ok (.iastore, 1) := by decide +kernel
theorem dX3_launch_33 : decode cX3_launch 33 = .ok (.aload_n 0, 1) := by decide +kernel
theorem dX3_launch_34 : decode cX3_launch 34 = .ok (.getfield 18, 3) := by decide +kernel
theorem dX3_launch_37 : decode cX3_launch 37 = .ok (.aload_n 0, 1) := by decide +kernel
theorem dX3_launch_38 : decode cX3_launch 38 = .ok (.getfield 27, 3) := by decide +kernel
theorem dX3_launch_41 : decode cX3_launch 41 = .ok (.iconst 0, 1) := by decide +kernel
theorem dX3_launch_42 : decode cX3_launch 42 = .ok (.iastore, 1) := by decide +kernel
theorem dX3_launch_43 : decode cX3_launch 43 = .ok (.aload_n 0, 1) := by decide +kernel
theorem dX3_launch_44 : decode cX3_launch 44 = .ok (.dup, 1) := by decide +kernel
theorem dX3_launch_45 : decode cX3_launch 45 = .ok (.getfield 27, 3) := by decide +kernel
theorem dX3_launch_48 : decode cX3_launch 48 = .ok (.iconst 1, 1) := by decide +kernel
theorem dX3_launch_49 : decode cX3_launch 49 = .ok (.iadd, 1) := by decide +kernel
theorem dX3_launch_50 : decode cX3_launch 50 = .ok (.putfield 27, 3) := by decide +kernel
theorem dX3_launch_53 : decode cX3_launch 53 = .ok (.aload_n 0, 1) := by decide +kernel
theorem dX3_launch_54 : decode cX3_launch 54 = .ok (.dup, 1) := by decide +kernel
theorem dX3_launch_55 : decode cX3_launch 55 = .ok (.getfield 31, 3) := by decide +kernel
theorem dX3_launch_58 : decode cX3_launch 58 = .ok (.iconst 1, 1) := by decide +kernel
theorem dX3_launch_59 : decode cX3_launch 59 = .ok (.iadd, 1) := by decide +kernel
theorem dX3_launch_60 : decode cX3_launch 60 = .ok (.putfield 31, 3) := by decide +kernel
theorem dX3_launch_63 : decode cX3_launch 63 = .ok (.iload_n 2, 1) := by decide +kernel
theorem dX3_launch_64 : decode cX3_launch 64 = .ok (.ireturn, 1) := by decide +kernel
theorem dX3_dismiss_0 : decode cX3_dismiss 0 = .ok (.aload_n 0, 1) := by decide +kernel
theorem dX3_dismiss_1 : decode cX3_dismiss 1 = .ok (.iload_n 1, 1) := by decide +kernel
theorem dX3_dismiss_2 : decode cX3_dismiss 2 = .ok (.invokevirtual 50, 3) := by decide +kernel
theorem dX3_dismiss_5 : decode cX3_dismiss 5 = .ok (.istore_n 2, 1) := by decide +kernel
theorem dX3_dismiss_6 : decode cX3_dismiss 6 = .ok (.iload_n 2, 1) := by decide +kernel
theorem dX3_dismiss_7 : decode cX3_dismiss 7 = .ok (.iconst (-1), 1) := by decide +kernel
theorem dX3_dismiss_8 : decode cX3_dismiss 8 = .ok (.if_icmp .ne 6, 3) := by decide +kernel
theorem dX3_dismiss_11 : decode cX3_dismiss 11 = .ok (.bipush (-2), 2) := by decide +kernel
theorem dX3_dismiss_13 : decode cX3_dismiss 13 = .ok (.ireturn, 1) := by decide +kernel
theorem dX3_dismiss_14 : decode cX3_dismiss 14 = .ok (.aload_n 0, 1) := by decide +kernel
theorem dX3_dismiss_15 : decode cX3_dismiss 15 = .ok (.getfield 18, 3) := by decide +kernel
theorem dX3_dismiss_18 : decode cX3_dismiss 18 = .ok (.iload_n 2, 1) := by decide +kernel
theorem dX3_dismiss_19 : decode cX3_dismiss 19 = .ok (.iaload, 1) := by decide +kernel
theorem dX3_dismiss_20 : decode cX3_dismiss 20 = .ok (.istore_n 3, 1) := by decide +kernel
theorem dX3_dismiss_21 : decode cX3_dismiss 21 = .ok (.aload_n 0, 1) := by decide +kernel
theorem dX3_dismiss_22 : decode cX3_dismiss 22 = .ok (.dup, 1) := by decide +kernel
theorem dX3_dismiss_23 : decode cX3_dismiss 23 = .ok (.getfield 37, 3) := by decide +kernel
theorem dX3_dismiss_26 : decode cX3_dismiss 26 = .ok (.iload_n 3, 1) := by decide +kernel
theorem dX3_dismiss_27 : decode cX3_dismiss 27 = .ok (.iadd, 1) := by decide +kernel
theorem dX3_dismiss_28 : decode cX3_dismiss 28 = .ok (.putfield 37, 3) := by decide +kernel
theorem dX3_dismiss_31 : decode cX3_dismiss 31 = .ok (.iload_n 2, 1) := by decide +kernel
theorem dX3_dismiss_32 : decode cX3_dismiss 32 = .ok (.iconst 1, 1) := by decide +kernel
theorem dX3_dismiss_33 : decode cX3_dismiss 33 = .ok (.iadd, 1) := by decide +kernel
theorem dX3_dismiss_34 : decode cX3_dismiss 34 = .ok (.istore 4, 2) := by decide +kernel
theorem dX3_dismiss_36 : decode cX3_dismiss 36 = .ok (.iload 4, 2) := by decide +kernel
theorem dX3_dismiss_38 : decode cX3_dismiss 38 = .ok (.aload_n 0, 1) := by decide +kernel
theorem dX3_dismiss_39 : decode cX3_dismiss 39 = .ok (.getfield 27, 3) := by decide +kernel
theorem dX3_dismiss_42 : decode cX3_dismiss 42 = .ok (.if_icmp .ge 57, 3) := by decide +kernel
theorem dX3_dismiss_45 : decode cX3_dismiss 45 = .ok (.aload_n 0, 1) := by decide +kernel
theorem dX3_dismiss_46 : decode cX3_dismiss 46 = .ok (.getfield 9, 3) := by decide +kernel
theorem dX3_dismiss_49 : decode cX3_dismiss 49 = .ok (.iload 4, 2) := by decide +kernel
theorem dX3_dismiss_51 : decode cX3_dismiss 51 = .ok (.iconst 1, 1) := by decide +kernel
theorem dX3_dismiss_52 : decode cX3_dismiss 52 = .ok (.isub, 1) := by decide +kernel
theorem dX3_dismiss_53 : decode cX3_dismiss 53 = .ok (.aload_n 0, 1) := by decide +kernel
theorem dX3_dismiss_54 : decode cX3_dismiss 54 = .ok (.getfield 9, 3) := by decide +kernel
theorem dX3_dismiss_57 : decode cX3_dismiss 57 = .ok (.iload 4, 2) := by decide +kernel
theorem dX3_dismiss_59 : decode cX3_dismiss 59 = .ok (.iaload, 1) := by decide +kernel
theorem dX3_dismiss_60 : decode cX3_dismiss 60 = .ok (.iastore, 1) := by decide +kernel
theorem dX3_dismiss_61 : decode cX3_dismiss 61 = .ok (.aload_n 0, 1) := by decide +kernel
theorem dX3_dismiss_62 : decode cX3_dismiss 62 = .ok (.getfield 15, 3) := by decide +kernel
theorem dX3_dismiss_65 : decode cX3_dismiss 65 = .ok (.iload 4, 2) := by decide +kernel
theorem dX3_dismiss_67 : decode cX3_dismiss 67 = .ok (.iconst 1, 1) := by decide +kernel
theorem dX3_dismiss_68 : decode cX3_dismiss 68 = .ok (.isub, 1) := by decide +kernel
theorem dX3_dismiss_69 : decode cX3_dismiss 69 = .ok (.aload_n 0, 1) := by decide +kernel
theorem dX3_dismiss_70 : decode cX3_dismiss 70 = .ok (.getfield 15, 3) := by decide +kernel
theorem dX3_dismiss_73 : decode cX3_dismiss 73 = .ok (.iload 4, 2) := by decide +kernel
theorem dX3_dismiss_75 : decode cX3_dismiss 75 = .ok (.iaload, 1) := by decide +kernel
theorem dX3_dismiss_76 : decode cX3_dismiss 76 = .ok (.iastore, 1) := by decide +kernel
theorem dX3_dismiss_77 : decode cX3_dismiss 77 = .ok (.aload_n 0, 1) := by decide +kernel
theorem dX3_dismiss_78 : decode cX3_dismiss 78 = .ok (.getfield 18, 3) := by decide +kernel
theorem dX3_dismiss_81 : decode cX3_dismiss 81 = .ok (.iload 4, 2) := by decide +kernel
theorem dX3_dismiss_83 : decode cX3_dismiss 83 = .ok (.iconst 1, 1) := by decide +kernel
theorem dX3_dismiss_84 : decode cX3_dismiss 84 = .ok (.isub, 1) := by decide +kernel
theorem dX3_dismiss_85 : decode cX3_dismiss 85 = .ok (.aload_n 0, 1) := by decide +kernel
theorem dX3_dismiss_86 : decode cX3_dismiss 86 = .ok (.getfield 18, 3) := by decide +kernel
theorem dX3_dismiss_89 : decode cX3_dismiss 89 = .ok (.iload 4, 2) := by decide +kernel
theorem dX3_dismiss_91 : decode cX3_dismiss 91 = .ok (.iaload, 1) := by decide +kernel
theorem dX3_dismiss_92 : decode cX3_dismiss 92 = .ok (.iastore, 1) := by decide +kernel
theorem dX3_dismiss_93 : decode cX3_dismiss 93 = .ok (.iinc 4 1, 3) := by decide +kernel
theorem dX3_dismiss_96 : decode cX3_dismiss 96 = .ok (.goto (-60), 3) := by decide +kernel
theorem dX3_dismiss_99 : decode cX3_dismiss 99 = .ok (.aload_n 0, 1) := by decide +kernel
theorem dX3_dismiss_100 : decode cX3_dismiss 100 = .ok (.dup, 1) := by decide +kernel
theorem dX3_dismiss_101 : decode cX3_dismiss 101 = .ok (.getfield 27, 3) := by decide +kernel
theorem dX3_dismiss_104 : decode cX3_dismiss 104 = .ok (.iconst 1, 1) := by decide +kernel
theorem dX3_dismiss_105 : decode cX3_dismiss 105 = .ok (.isub, 1) := by decide +kernel
theorem dX3_dismiss_106 : decode cX3_dismiss 106 = .ok (.putfield 27, 3) := by decide +kernel
theorem dX3_dismiss_109 : decode cX3_dismiss 109 = .ok (.iload_n 3, 1) := by decide +kernel
theorem dX3_dismiss_110 : decode cX3_dismiss 110 = .ok (.ireturn, 1) := by decide +kernel
theorem dX3_step_0 : decode cX3_step 0 = .ok (.aload_n 0, 1) := by decide +kernel
theorem dX3_step_1 : decode cX3_step 1 = .ok (.getfield 15, 3) := by decide +kernel
theorem dX3_step_4 : decode cX3_step 4 = .ok (.iload_n 1, 1) := by decide +kernel
theorem dX3_step_5 : decode cX3_step 5 = .ok (.iaload, 1) := by decide +kernel
theorem dX3_step_6 : decode cX3_step 6 = .ok (.iload_n 2, 1) := by decide +kernel
theorem dX3_step_7 : decode cX3_step 7 = .ok (.invokestatic 53, 3) := by decide +kernel
theorem dX3_step_10 : decode cX3_step 10 = .ok (.istore_n 3, 1) := by decide +kernel
theorem dX3_step_11 : decode cX3_step 11 = .ok (.iload_n 3, 1) := by decide +kernel
theorem dX3_step_12 : decode cX3_step 12 = .ok (.iconst (-1), 1) := by decide +kernel
theorem dX3_step_13 : decode cX3_step 13 = .ok (.if_icmp .ne 4, 3) := by decide +kernel
theorem dX3_step_16 : decode cX3_step 16 = .ok (.return_, 1) := by decide +kernel
theorem dX3_step_17 : decode cX3_step 17 = .ok (.iload_n 3, 1) := by decide +kernel
theorem dX3_step_18 : decode cX3_step 18 = .ok (.invokestatic 57, 3) := by decide +kernel
theorem dX3_step_21 : decode cX3_step 21 = .ok (.iconst 4, 1) := by decide +kernel
theorem dX3_step_22 : decode cX3_step 22 = .ok (.if_icmp .ne 26, 3) := by decide +kernel
theorem dX3_step_25 : decode cX3_step 25 = .ok (.aload_n 0, 1) := by decide +kernel
theorem dX3_step_26 : decode cX3_step 26 = .ok (.getfield 15, 3) := by decide +kernel
theorem dX3_step_29 : decode cX3_step 29 = .ok (.iload_n 1, 1) := by decide +kernel
theorem dX3_step_30 : decode cX3_step 30 = .ok (.iaload, 1) := by decide +kernel
theorem dX3_step_31 : decode cX3_step 31 = .ok (.invokestatic 57, 3) := by decide +kernel
theorem dX3_step_34 : decode cX3_step 34 = .ok (.iconst 4, 1) := by decide +kernel
theorem dX3_step_35 : decode cX3_step 35 = .ok (.if_icmp .eq 13, 3) := by decide +kernel
theorem dX3_step_38 : decode cX3_step 38 = .ok (.aload_n 0, 1) := by decide +kernel
theorem dX3_step_39 : decode cX3_step 39 = .ok (.dup, 1) := by decide +kernel
theorem dX3_step_40 : decode cX3_step 40 = .ok (.getfield 40, 3) := by decide +kernel
theorem dX3_step_43 : decode cX3_step 43 = .ok (.iconst 1, 1) := by decide +kernel
theorem dX3_step_44 : decode cX3_step 44 = .ok (.iadd, 1) := by decide +kernel
theorem dX3_step_45 : decode cX3_step 45 = .ok (.putfield 40, 3) := by decide +kernel
theorem dX3_step_48 : decode cX3_step 48 = .ok (.aload_n 0, 1) := by decide +kernel
theorem dX3_step_49 : decode cX3_step 49 = .ok (.getfield 15, 3) := by decide +kernel
theorem dX3_step_52 : decode cX3_step 52 = .ok (.iload_n 1, 1) := by decide +kernel
theorem dX3_step_53 : decode cX3_step 53 = .ok (.iload_n 3, 1) := by decide +kernel
theorem dX3_step_54 : decode cX3_step 54 = .ok (.iastore, 1) := by decide +kernel
theorem dX3_step_55 : decode cX3_step 55 = .ok (.return_, 1) := by decide +kernel
theorem dX3_pay_0 : decode cX3_pay 0 = .ok (.aload_n 0, 1) := by decide +kernel
theorem dX3_pay_1 : decode cX3_pay 1 = .ok (.getfield 18, 3) := by decide +kernel
theorem dX3_pay_4 : decode cX3_pay 4 = .ok (.iload_n 1, 1) := by decide +kernel
theorem dX3_pay_5 : decode cX3_pay 5 = .ok (.dup2, 1) := by decide +kernel
theorem dX3_pay_6 : decode cX3_pay 6 = .ok (.iaload, 1) := by decide +kernel
theorem dX3_pay_7 : decode cX3_pay 7 = .ok (.iload_n 2, 1) := by decide +kernel
theorem dX3_pay_8 : decode cX3_pay 8 = .ok (.iadd, 1) := by decide +kernel
theorem dX3_pay_9 : decode cX3_pay 9 = .ok (.iastore, 1) := by decide +kernel
theorem dX3_pay_10 : decode cX3_pay 10 = .ok (.aload_n 0, 1) := by decide +kernel
theorem dX3_pay_11 : decode cX3_pay 11 = .ok (.dup, 1) := by decide +kernel
theorem dX3_pay_12 : decode cX3_pay 12 = .ok (.getfield 34, 3) := by decide +kernel
theorem dX3_pay_15 : decode cX3_pay 15 = .ok (.iload_n 2, 1) := by decide +kernel
theorem dX3_pay_16 : decode cX3_pay 16 = .ok (.iadd, 1) := by decide +kernel
theorem dX3_pay_17 : decode cX3_pay 17 = .ok (.putfield 34, 3) := by decide +kernel
theorem dX3_pay_20 : decode cX3_pay 20 = .ok (.return_, 1) := by decide +kernel
theorem dX4_init_0 : decode cX4_init 0 = .ok (.aload_n 0, 1) := by decide +kernel
theorem dX4_init_1 : decode cX4_init 1 = .ok (.invokespecial 3, 3) := by decide +kernel
theorem dX4_init_4 : decode cX4_init 4 = .ok (.aload_n 0, 1) := by decide +kernel
theorem dX4_init_5 : decode cX4_init 5 = .ok (.bipush 9, 2) := by decide +kernel
theorem dX4_init_7 : decode cX4_init 7 = .ok (.anewarray 11, 3) := by decide +kernel
theorem dX4_init_10 : decode cX4_init 10 = .ok (.putfield 13, 3) := by decide +kernel
theorem dX4_init_13 : decode cX4_init 13 = .ok (.iconst 0, 1) := by decide +kernel
theorem dX4_init_14 : decode cX4_init 14 = .ok (.istore_n 1, 1) := by decide +kernel
theorem dX4_init_15 : decode cX4_init 15 = .ok (.iload_n 1, 1) := by decide +kernel
theorem dX4_init_16 : decode cX4_init 16 = .ok (.bipush 9, 2) := by decide +kernel
theorem dX4_init_18 : decode cX4_init 18 = .ok (.if_icmp .ge 22, 3) := by decide +kernel
theorem dX4_init_21 : decode cX4_init 21 = .ok (.aload_n 0, 1) := by decide +kernel
theorem dX4_init_22 : decode cX4_init 22 = .ok (.getfield 13, 3) := by decide +kernel
theorem dX4_init_25 : decode cX4_init 25 = .ok (.iload_n 1, 1) := by decide +kernel
theorem dX4_init_26 : decode cX4_init 26 = .ok (.new 11, 3) := by decide +kernel
theorem dX4_init_29 : decode cX4_init 29 = .ok (.dup, 1) := by decide +kernel
theorem dX4_init_30 : decode cX4_init 30 = .ok (.invokespecial 17, 3) := by decide +kernel
theorem dX4_init_33 : decode cX4_init 33 = .ok (.aastore, 1) := by decide +kernel
theorem dX4_init_34 : decode cX4_init 34 = .ok (.iinc 1 1, 3) := by decide +kernel
theorem dX4_init_37 : decode cX4_init 37 = .ok (.goto (-22), 3) := by decide +kernel
theorem dX4_init_40 : decode cX4_init 40 = .ok (.return_, 1) := by decide +kernel
theorem dX4_note_0 : decode cX4_note 0 = .ok (.aload_n 0, 1) := by decide +kernel
theorem dX4_note_1 : decode cX4_note 1 = .ok (.getfield 13, 3) := by decide +kernel
theorem dX4_note_4 : decode cX4_note 4 = .ok (.aload_n 0, 1) := by decide +kernel
theorem dX4_note_5 : decode cX4_note 5 = .ok (.getfield 18, 3) := by decide +kernel
theorem dX4_note_8 : decode cX4_note 8 = .ok (.aaload, 1) := by decide +kernel
theorem dX4_note_9 : decode cX4_note 9 = .ok (.aload_n 1, 1) := by decide +kernel
theorem dX4_note_10 : decode cX4_note 10 = .ok (.invokevirtual 22, 3) := by decide +kernel
theorem dX4_note_13 : decode cX4_note 13 = .ok (.return_, 1) := by decide +kernel
theorem dX4_putBack_0 : decode cX4_putBack 0 = .ok (.aload_n 1, 1) := by decide +kernel
theorem dX4_putBack_1 : decode cX4_putBack 1 = .ok (.aload_n 0, 1) := by decide +kernel
theorem dX4_putBack_2 : decode cX4_putBack 2 = .ok (.getfield 13, 3) := by decide +kernel
theorem dX4_putBack_5 : decode cX4_putBack 5 = .ok (.aload_n 0, 1) := by decide +kernel
theorem dX4_putBack_6 : decode cX4_putBack 6 = .ok (.getfield 18, 3) := by decide +kernel
theorem dX4_putBack_9 : decode cX4_putBack 9 = .ok (.aaload, 1) := by decide +kernel
theorem dX4_putBack_10 : decode cX4_putBack 10 = .ok (.invokevirtual 22, 3) := by decide +kernel
theorem dX4_putBack_13 : decode cX4_putBack 13 = .ok (.return_, 1) := by decide +kernel
theorem dX4_confirm_0 : decode cX4_confirm 0 = .ok (.aload_n 0, 1) := by decide +kernel
theorem dX4_confirm_1 : decode cX4_confirm 1 = .ok (.aload_n 0, 1) := by decide +kernel
theorem dX4_confirm_2 : decode cX4_confirm 2 = .ok (.getfield 18, 3) := by decide +kernel
theorem dX4_confirm_5 : decode cX4_confirm 5 = .ok (.iconst 1, 1) := by decide +kernel
theorem dX4_confirm_6 : decode cX4_confirm 6 = .ok (.iadd, 1) := by decide +kernel
theorem dX4_confirm_7 : decode cX4_confirm 7 = .ok (.bipush 9, 2) := by decide +kernel
theorem dX4_confirm_9 : decode cX4_confirm 9 = .ok (.irem, 1) := by decide +kernel
theorem dX4_confirm_10 : decode cX4_confirm 10 = .ok (.putfield 18, 3) := by decide +kernel
theorem dX4_confirm_13 : decode cX4_confirm 13 = .ok (.aload_n 0, 1) := by decide +kernel
theorem dX4_confirm_14 : decode cX4_confirm 14 = .ok (.aload_n 0, 1) := by decide +kernel
theorem dX4_confirm_15 : decode cX4_confirm 15 = .ok (.getfield 26, 3) := by decide +kernel
theorem dX4_confirm_18 : decode cX4_confirm 18 = .ok (.iconst 1, 1) := by decide +kernel
theorem dX4_confirm_19 : decode cX4_confirm 19 = .ok (.iadd, 1) := by decide +kernel
theorem dX4_confirm_20 : decode cX4_confirm 20 = .ok (.bipush 8, 2) := by decide +kernel
theorem dX4_confirm_22 : decode cX4_confirm 22 = .ok (.invokestatic 29, 3) := by decide +kernel
theorem dX4_confirm_25 : decode cX4_confirm 25 = .ok (.putfield 26, 3) := by decide +kernel
theorem dX4_confirm_28 : decode cX4_confirm 28 = .ok (.return_, 1) := by decide +kernel
theorem dX4_takeBack_0 : decode cX4_takeBack 0 = .ok (.aload_n 0, 1) := by decide +kernel
theorem dX4_takeBack_1 : decode cX4_takeBack 1 = .ok (.aload_n 0, 1) := by decide +kernel
theorem dX4_takeBack_2 : decode cX4_takeBack 2 = .ok (.getfield 18, 3) := by decide +kernel
theorem dX4_takeBack_5 : decode cX4_takeBack 5 = .ok (.bipush 9, 2) := by decide +kernel
theorem dX4_takeBack_7 : decode cX4_takeBack 7 = .ok (.iadd, 1) := by decide +kernel
theorem dX4_takeBack_8 : decode cX4_takeBack 8 = .ok (.iconst 1, 1) := by decide +kernel
theorem dX4_takeBack_9 : decode cX4_takeBack 9 = .ok (.isub, 1) := by decide +kernel
theorem dX4_takeBack_10 : decode cX4_takeBack 10 = .ok (.bipush 9, 2) := by decide +kernel
theorem dX4_takeBack_12 : decode cX4_takeBack 12 = .ok (.irem, 1) := by decide +kernel
theorem dX4_takeBack_13 : decode cX4_takeBack 13 = .ok (.putfield 18, 3) := by decide +kernel
theorem dX4_takeBack_16 : decode cX4_takeBack 16 = .ok (.aload_n 0, 1) := by decide +kernel
theorem dX4_takeBack_17 : decode cX4_takeBack 17 = .ok (.dup, 1) := by decide +kernel
theorem dX4_takeBack_18 : decode cX4_takeBack 18 = .ok (.getfield 26, 3) := by decide +kernel
theorem dX4_takeBack_21 : decode cX4_takeBack 21 = .ok (.iconst 1, 1) := by decide +kernel
theorem dX4_takeBack_22 : decode cX4_takeBack 22 = .ok (.isub, 1) := by decide +kernel
theorem dX4_takeBack_23 : decode cX4_takeBack 23 = .ok (.putfield 26, 3) := by decide +kernel
theorem dX4_takeBack_26 : decode cX4_takeBack 26 = .ok (.aload_n 1, 1) := by decide +kernel
theorem dX4_takeBack_27 : decode cX4_takeBack 27 = .ok (.aload_n 0, 1) := by decide +kernel
theorem dX4_takeBack_28 : decode cX4_takeBack 28 = .ok (.getfield 13, 3) := by decide +kernel
theorem dX4_takeBack_31 : decode cX4_takeBack 31 = .ok (.aload_n 0, 1) := by decide +kernel
theorem dX4_takeBack_32 : decode cX4_takeBack 32 = .ok (.getfield 18, 3) := by decide +kernel
theorem dX4_takeBack_35 : decode cX4_takeBack 35 = .ok (.aaload, 1) := by decide +kernel
theorem dX4_takeBack_36 : decode cX4_takeBack 36 = .ok (.invokevirtual 22, 3) := by decide +kernel
theorem dX4_takeBack_39 : decode cX4_takeBack 39 = .ok (.return_, 1) := by decide +kernel
theorem dX4_forget_0 : decode cX4_forget 0 = .ok (.aload_n 0, 1) := by decide +kernel
theorem dX4_forget_1 : decode cX4_forget 1 = .ok (.iconst 0, 1) := by decide +kernel
theorem dX4_forget_2 : decode cX4_forget 2 = .ok (.putfield 26, 3) := by decide +kernel
theorem dX4_forget_5 : decode cX4_forget 5 = .ok (.return_, 1) := by decide +kernel
theorem dX5_init_0 : decode cX5_init 0 = .ok (.aload_n 0, 1) := by decide +kernel
theorem dX5_init_1 : decode cX5_init 1 = .ok (.invokespecial 3, 3) := by decide +kernel
theorem dX5_init_4 : decode cX5_init 4 = .ok (.aload_n 0, 1) := by decide +kernel
theorem dX5_init_5 : decode cX5_init 5 = .ok (.bipush 8, 2) := by decide +kernel
theorem dX5_init_7 : decode cX5_init 7 = .ok (.newarray .int, 2) := by decide +kernel
theorem dX5_init_9 : decode cX5_init 9 = .ok (.putfield 9, 3) := by decide +kernel
theorem dX5_init_12 : decode cX5_init 12 = .ok (.return_, 1) := by decide +kernel
theorem dX5_copyFrom_0 : decode cX5_copyFrom 0 = .ok (.aload_n 1, 1) := by decide +kernel
theorem dX5_copyFrom_1 : decode cX5_copyFrom 1 = .ok (.getfield 9, 3) := by decide +kernel
theorem dX5_copyFrom_4 : decode cX5_copyFrom 4 = .ok (.iconst 0, 1) := by decide +kernel
theorem dX5_copyFrom_5 : decode cX5_copyFrom 5 = .ok (.aload_n 0, 1) := by decide +kernel
theorem dX5_copyFrom_6 : decode cX5_copyFrom 6 = .ok (.getfield 9, 3) := by decide +kernel
theorem dX5_copyFrom_9 : decode cX5_copyFrom 9 = .ok (.iconst 0, 1) := by decide +kernel
theorem dX5_copyFrom_10 : decode cX5_copyFrom 10 = .ok (.bipush 8, 2) := by decide +kernel
theorem dX5_copyFrom_12 : decode cX5_copyFrom 12 = .ok (.invokestatic 15, 3) := by decide +kernel
theorem dX5_copyFrom_15 : decode cX5_copyFrom 15 = .ok (.aload_n 0, 1) := by decide +kernel
theorem dX5_copyFrom_16 : decode cX5_copyFrom 16 = .ok (.aload_n 1, 1) := by decide +kernel
theorem dX5_copyFrom_17 : decode cX5_copyFrom 17 = .ok (.getfield 21, 3) := by decide +kernel
theorem dX5_copyFrom_20 : decode cX5_copyFrom 20 = .ok (.putfield 21, 3) := by decide +kernel
theorem dX5_copyFrom_23 : decode cX5_copyFrom 23 = .ok (.return_, 1) := by decide +kernel
theorem dX5_build_0 : decode cX5_build 0 = .ok (.iload_n 1, 1) := by decide +kernel
theorem dX5_build_1 : decode cX5_build 1 = .ok (.iload_n 2, 1) := by decide +kernel
theorem dX5_build_2 : decode cX5_build 2 = .ok (.invokestatic 25, 3) := by decide +kernel
theorem dX5_build_5 : decode cX5_build 5 = .ok (.istore_n 3, 1) := by decide +kernel
theorem dX5_build_6 : decode cX5_build 6 = .ok (.iload_n 3, 1) := by decide +kernel
theorem dX5_build_7 : decode cX5_build 7 = .ok (.iconst (-1), 1) := by decide +kernel
theorem dX5_build_8 : decode cX5_build 8 = .ok (.if_icmp .ne 5, 3) := by decide +kernel
theorem dX5_build_11 : decode cX5_build 11 = .ok (.iconst (-1), 1) := by decide +kernel
theorem dX5_build_12 : decode cX5_build 12 = .ok (.ireturn, 1) := by decide +kernel
theorem dX5_build_13 : decode cX5_build 13 = .ok (.aload_n 0, 1) := by decide +kernel
theorem dX5_build_14 : decode cX5_build 14 = .ok (.getfield 21, 3) := by decide +kernel
theorem dX5_build_17 : decode cX5_build 17 = .ok (.bipush 8, 2) := by decide +kernel
theorem dX5_build_19 : decode cX5_build 19 = .ok (.if_icmp .ge 11, 3) := by decide +kernel
theorem dX5_build_22 : decode cX5_build 22 = .ok (.aload_n 0, 1) := by decide +kernel
theorem dX5_build_23 : decode cX5_build 23 = .ok (.iload_n 3, 1) := by decide +kernel
theorem dX5_build_24 : decode cX5_build 24 = .ok (.invokevirtual 29, 3) := by decide +kernel
theorem dX5_build_27 : decode cX5_build 27 = .ok (.ifCond .eq 6, 3) := by decide +kernel
theorem dX5_build_30 : decode cX5_build 30 = .ok (.bipush (-3), 2) := by decide +kernel
theorem dX5_build_32 : decode cX5_build 32 = .ok (.ireturn, 1) := by decide +kernel
theorem dX5_build_33 : decode cX5_build 33 = .ok (.aload_n 0, 1) := by decide +kernel
theorem dX5_build_34 : decode cX5_build 34 = .ok (.getfield 9, 3) := by decide +kernel
theorem dX5_build_37 : decode cX5_build 37 = .ok (.aload_n 0, 1) := by decide +kernel
theorem dX5_build_38 : decode cX5_build 38 = .ok (.getfield 21, 3) := by decide +kernel
theorem dX5_build_41 : decode cX5_build 41 = .ok (.iload_n 3, 1) := by decide +kernel
theorem dX5_build_42 : decode cX5_build 42 = .ok (.iastore, 1) := by decide +kernel
theorem dX5_build_43 : decode cX5_build 43 = .ok (.aload_n 0, 1) := by decide +kernel
theorem dX5_build_44 : decode cX5_build 44 = .ok (.dup, 1) := by decide +kernel
theorem dX5_build_45 : decode cX5_build 45 = .ok (.getfield 21, 3) := by decide +kernel
theorem dX5_build_48 : decode cX5_build 48 = .ok (.iconst 1, 1) := by decide +kernel
theorem dX5_build_49 : decode cX5_build 49 = .ok (.iadd, 1) := by decide +kernel
theorem dX5_build_50 : decode cX5_build 50 = .ok (.putfield 21, 3) := by decide +kernel
theorem dX5_build_53 : decode cX5_build 53 = .ok (.aload_n 0, 1) := by decide +kernel
theorem dX5_build_54 : decode cX5_build 54 = .ok (.getfield 21, 3) := by decide +kernel
theorem dX5_build_57 : decode cX5_build 57 = .ok (.iconst 1, 1) := by decide +kernel
theorem dX5_build_58 : decode cX5_build 58 = .ok (.isub, 1) := by decide +kernel
theorem dX5_build_59 : decode cX5_build 59 = .ok (.ireturn, 1) := by decide +kernel
theorem dX5_isIn_0 : decode cX5_isIn 0 = .ok (.iconst 0, 1) := by decide +kernel
theorem dX5_isIn_1 : decode cX5_isIn 1 = .ok (.istore_n 2, 1) := by decide +kernel
theorem dX5_isIn_2 : decode cX5_isIn 2 = .ok (.iload_n 2, 1) := by decide +kernel
theorem dX5_isIn_3 : decode cX5_isIn 3 = .ok (.aload_n 0, 1) := by decide +kernel
theorem dX5_isIn_4 : decode cX5_isIn 4 = .ok (.getfield 21, 3) := by decide +kernel
theorem dX5_isIn_7 : decode cX5_isIn 7 = .ok (.if_icmp .ge 21, 3) := by decide +kernel
theorem dX5_isIn_10 : decode cX5_isIn 10 = .ok (.aload_n 0, 1) := by decide +kernel
theorem dX5_isIn_11 : decode cX5_isIn 11 = .ok (.getfield 9, 3) := by decide +kernel
theorem dX5_isIn_14 : decode cX5_isIn 14 = .ok (.iload_n 2, 1) := by decide +kernel
theorem dX5_isIn_15 : decode cX5_isIn 15 = .ok (.iaload, 1) := by decide +kernel
theorem dX5_isIn_16 : decode cX5_isIn 16 = .ok (.iload_n 1, 1) := by decide +kernel
theorem dX5_isIn_17 : decode cX5_isIn 17 = .ok (.if_icmp .ne 5, 3) := by decide +kernel
theorem dX5_isIn_20 : decode cX5_isIn 20 = .ok (.iconst 1, 1) := by decide +kernel
theorem dX5_isIn_21 : decode cX5_isIn 21 = .ok (.ireturn, 1) := by decide +kernel
theorem dX5_isIn_22 : decode cX5_isIn 22 = .ok (.iinc 2 1, 3) := by decide +kernel
theorem dX5_isIn_25 : decode cX5_isIn 25 = .ok (.goto (-23), 3) := by decide +kernel
theorem dX5_isIn_28 : decode cX5_isIn 28 = .ok (.iconst 0, 1) := by decide +kernel
theorem dX5_isIn_29 : decode cX5_isIn 29 = .ok (.ireturn, 1) := by decide +kernel
theorem dX5_tearDown_0 : decode cX5_tearDown 0 = .ok (.iload_n 1, 1) := by decide +kernel
theorem dX5_tearDown_1 : decode cX5_tearDown 1 = .ok (.ifCond .lt 11, 3) := by decide +kernel
theorem dX5_tearDown_4 : decode cX5_tearDown 4 = .ok (.iload_n 1, 1) := by decide +kernel
theorem dX5_tearDown_5 : decode cX5_tearDown 5 = .ok (.aload_n 0, 1) := by decide +kernel
theorem dX5_tearDown_6 : decode cX5_tearDown 6 = .ok (.getfield 21, 3) := by decide +kernel
theorem dX5_tearDown_9 : decode cX5_tearDown 9 = .ok (.if_icmp .lt 5, 3) := by decide +kernel
theorem dX5_tearDown_12 : decode cX5_tearDown 12 = .ok (.iconst (-1), 1) := by decide +kernel
theorem dX5_tearDown_13 : decode cX5_tearDown 13 = .ok (.ireturn, 1) := by decide +kernel
theorem dX5_tearDown_14 : decode cX5_tearDown 14 = .ok (.iload_n 1, 1) := by decide +kernel
theorem dX5_tearDown_15 : decode cX5_tearDown 15 = .ok (.iconst 1, 1) := by decide +kernel
theorem dX5_tearDown_16 : decode cX5_tearDown 16 = .ok (.iadd, 1) := by decide +kernel
theorem dX5_tearDown_17 : decode cX5_tearDown 17 = .ok (.istore_n 2, 1) := by decide +kernel
theorem dX5_tearDown_18 : decode cX5_tearDown 18 = .ok (.iload_n 2, 1) := by decide +kernel
theorem dX5_tearDown_19 : decode cX5_tearDown 19 = .ok (.aload_n 0, 1) := by decide +kernel
theorem dX5_tearDown_20 : decode cX5_tearDown 20 = .ok (.getfield 21, 3) := by decide +kernel
theorem dX5_tearDown_23 : decode cX5_tearDown 23 = .ok (.if_icmp .ge 23, 3) := by decide +kernel
theorem dX5_tearDown_26 : decode cX5_tearDown 26 = .ok (.aload_n 0, 1) := by decide +kernel
theorem dX5_tearDown_27 : decode cX5_tearDown 27 = .ok (.getfield 9, 3) := by decide +kernel
theorem dX5_tearDown_30 : decode cX5_tearDown 30 = .ok (.iload_n 2, 1) := by decide +kernel
theorem dX5_tearDown_31 : decode cX5_tearDown 31 = .ok (.iconst 1, 1) := by decide +kernel
theorem dX5_tearDown_32 : decode cX5_tearDown 32 = .ok (.isub, 1) := by decide +kernel
theorem dX5_tearDown_33 : decode cX5_tearDown 33 = .ok (.aload_n 0, 1) := by decide +kernel
theorem dX5_tearDown_34 : decode cX5_tearDown 34 = .ok (.getfield 9, 3) := by decide +kernel
theorem dX5_tearDown_37 : decode cX5_tearDown 37 = .ok (.iload_n 2, 1) := by decide +kernel
theorem dX5_tearDown_38 : decode cX5_tearDown 38 = .ok (.iaload, 1) := by decide +kernel
theorem dX5_tearDown_39 : decode cX5_tearDown 39 = .ok (.iastore, 1) := by decide +kernel
theorem dX5_tearDown_40 : decode cX5_tearDown 40 = .ok (.iinc 2 1, 3) := by decide +kernel
theorem dX5_tearDown_43 : decode cX5_tearDown 43 = .ok (.goto (-25), 3) := by decide +kernel
theorem dX5_tearDown_46 : decode cX5_tearDown 46 = .ok (.aload_n 0, 1) := by decide +kernel
theorem dX5_tearDown_47 : decode cX5_tearDown 47 = .ok (.dup, 1) := by decide +kernel
theorem dX5_tearDown_48 : decode cX5_tearDown 48 = .ok (.getfield 21, 3) := by decide +kernel
theorem dX5_tearDown_51 : decode cX5_tearDown 51 = .ok (.iconst 1, 1) := by decide +kernel
theorem dX5_tearDown_52 : decode cX5_tearDown 52 = .ok (.isub, 1) := by decide +kernel
theorem dX5_tearDown_53 : decode cX5_tearDown 53 = .ok (.putfield 21, 3) := by decide +kernel
theorem dX5_tearDown_56 : decode cX5_tearDown 56 = .ok (.aload_n 0, 1) := by decide +kernel
theorem dX5_tearDown_57 : decode cX5_tearDown 57 = .ok (.getfield 21, 3) := by decide +kernel
theorem dX5_tearDown_60 : decode cX5_tearDown 60 = .ok (.ireturn, 1) := by decide +kernel
theorem dX5_costOfPair_0 : decode cX5_costOfPair 0 = .ok (.aload_n 0, 1) := by decide +kernel
theorem dX5_costOfPair_1 : decode cX5_costOfPair 1 = .ok (.getfield 9, 3) := by decide +kernel
theorem dX5_costOfPair_4 : decode cX5_costOfPair 4 = .ok (.iload_n 1, 1) := by decide +kernel
theorem dX5_costOfPair_5 : decode cX5_costOfPair 5 = .ok (.iaload, 1) := by decide +kernel
theorem dX5_costOfPair_6 : decode cX5_costOfPair 6 = .ok (.aload_n 0, 1) := by decide +kernel
theorem dX5_costOfPair_7 : decode cX5_costOfPair 7 = .ok (.getfield 9, 3) := by decide +kernel
theorem dX5_costOfPair_10 : decode cX5_costOfPair 10 = .ok (.iload_n 2, 1) := by decide +kernel
theorem dX5_costOfPair_11 : decode cX5_costOfPair 11 = .ok (.iaload, 1) := by decide +kernel
theorem dX5_costOfPair_12 : decode cX5_costOfPair 12 = .ok (.invokestatic 33, 3) := by decide +kernel
theorem dX5_costOfPair_15 : decode cX5_costOfPair 15 = .ok (.istore_n 3, 1) := by decide +kernel
theorem dX5_costOfPair_16 : decode cX5_costOfPair 16 = .ok (.aload_n 0, 1) := by decide +kernel
theorem dX5_costOfPair_17 : decode cX5_costOfPair 17 = .ok (.getfield 9, 3) := by decide +kernel
theorem dX5_costOfPair_20 : decode cX5_costOfPair 20 = .ok (.iload_n 1, 1) := by decide +kernel
theorem dX5_costOfPair_21 : decode cX5_costOfPair 21 = .ok (.iaload, 1) := by decide +kernel
theorem dX5_costOfPair_22 : decode cX5_costOfPair 22 = .ok (.aload_n 0, 1) := by decide +kernel
theorem dX5_costOfPair_23 : decode cX5_costOfPair 23 = .ok (.getfield 9, 3) := by decide +kernel
theorem dX5_costOfPair_26 : decode cX5_costOfPair 26 = .ok (.iload_n 2, 1) := by decide +kernel
theorem dX5_costOfPair_27 : decode cX5_costOfPair 27 = .ok (.iaload, 1) := by decide +kernel
theorem dX5_costOfPair_28 : decode cX5_costOfPair 28 = .ok (.invokestatic 36, 3) := by decide +kernel
theorem dX5_costOfPair_31 : decode cX5_costOfPair 31 = .ok (.invokestatic 33, 3) := by decide +kernel
theorem dX5_costOfPair_34 : decode cX5_costOfPair 34 = .ok (.istore 4, 2) := by decide +kernel
theorem dX5_costOfPair_36 : decode cX5_costOfPair 36 = .ok (.iload_n 3, 1) := by decide +kernel
theorem dX5_costOfPair_37 : decode cX5_costOfPair 37 = .ok (.iload 4, 2) := by decide +kernel
theorem dX5_costOfPair_39 : decode cX5_costOfPair 39 = .ok (.invokestatic 40, 3) := by decide +kernel
theorem dX5_costOfPair_42 : decode cX5_costOfPair 42 = .ok (.ireturn, 1) := by decide +kernel
theorem dX6_init_0 : decode cX6_init 0 = .ok (.aload_n 0, 1) := by decide +kernel
theorem dX6_init_1 : decode cX6_init 1 = .ok (.invokespecial 3, 3) := by decide +kernel
theorem dX6_init_4 : decode cX6_init 4 = .ok (.aload_n 0, 1) := by decide +kernel
theorem dX6_init_5 : decode cX6_init 5 = .ok (.new 9, 3) := by decide +kernel
theorem dX6_init_8 : decode cX6_init 8 = .ok (.dup, 1) := by decide +kernel
theorem dX6_init_9 : decode cX6_init 9 = .ok (.invokespecial 11, 3) := by decide +kernel
theorem dX6_init_12 : decode cX6_init 12 = .ok (.putfield 12, 3) := by decide +kernel
theorem dX6_init_15 : decode cX6_init 15 = .ok (.aload_n 0, 1) := by decide +kernel
theorem dX6_init_16 : decode cX6_init 16 = .ok (.new 18, 3) := by decide +kernel
theorem dX6_init_19 : decode cX6_init 19 = .ok (.dup, 1) := by decide +kernel
theorem dX6_init_20 : decode cX6_init 20 = .ok (.invokespecial 20, 3) := by decide +kernel
theorem dX6_init_23 : decode cX6_init 23 = .ok (.putfield 21, 3) := by decide +kernel
theorem dX6_init_26 : decode cX6_init 26 = .ok (.aload_n 0, 1) := by decide +kernel
theorem dX6_init_27 : decode cX6_init 27 = .ok (.new 25, 3) := by decide +kernel
theorem dX6_init_30 : decode cX6_init 30 = .ok (.dup, 1) := by decide +kernel
theorem dX6_init_31 : decode cX6_init 31 = .ok (.invokespecial 27, 3) := by decide +kernel
theorem dX6_init_34 : decode cX6_init 34 = .ok (.putfield 28, 3) := by decide +kernel
theorem dX6_init_37 : decode cX6_init 37 = .ok (.aload_n 0, 1) := by decide +kernel
theorem dX6_init_38 : decode cX6_init 38 = .ok (.new 32, 3) := by decide +kernel
theorem dX6_init_41 : decode cX6_init 41 = .ok (.dup, 1) := by decide +kernel
theorem dX6_init_42 : decode cX6_init 42 = .ok (.invokespecial 34, 3) := by decide +kernel
theorem dX6_init_45 : decode cX6_init 45 = .ok (.putfield 35, 3) := by decide +kernel
theorem dX6_init_48 : decode cX6_init 48 = .ok (.return_, 1) := by decide +kernel
theorem dX6_copyFrom_0 : decode cX6_copyFrom 0 = .ok (.aload_n 0, 1) := by decide +kernel
theorem dX6_copyFrom_1 : decode cX6_copyFrom 1 = .ok (.getfield 12, 3) := by decide +kernel
theorem dX6_copyFrom_4 : decode cX6_copyFrom 4 = .ok (.aload_n 1, 1) := by decide +kernel
theorem dX6_copyFrom_5 : decode cX6_copyFrom 5 = .ok (.getfield 12, 3) := by decide +kernel
theorem dX6_copyFrom_8 : decode cX6_copyFrom 8 = .ok (.invokevirtual 39, 3) := by decide +kernel
theorem dX6_copyFrom_11 : decode cX6_copyFrom 11 = .ok (.aload_n 0, 1) := by decide +kernel
theorem dX6_copyFrom_12 : decode cX6_copyFrom 12 = .ok (.getfield 21, 3) := by decide +kernel
theorem dX6_copyFrom_15 : decode cX6_copyFrom 15 = .ok (.aload_n 1, 1) := by decide +kernel
theorem dX6_copyFrom_16 : decode cX6_copyFrom 16 = .ok (.getfield 21, 3) := by decide +kernel
theorem dX6_copyFrom_19 : decode cX6_copyFrom 19 = .ok (.invokevirtual 43, 3) := by decide +kernel
theorem dX6_copyFrom_22 : decode cX6_copyFrom 22 = .ok (.aload_n 0, 1) := by decide +kernel
theorem dX6_copyFrom_23 : decode cX6_copyFrom 23 = .ok (.getfield 28, 3) := by decide +kernel
theorem dX6_copyFrom_26 : decode cX6_copyFrom 26 = .ok (.aload_n 1, 1) := by decide +kernel
theorem dX6_copyFrom_27 : decode cX6_copyFrom 27 = .ok (.getfield 28, 3) := by decide +kernel
theorem dX6_copyFrom_30 : decode cX6_copyFrom 30 = .ok (.invokevirtual 46, 3) := by decide +kernel
theorem dX6_copyFrom_33 : decode cX6_copyFrom 33 = .ok (.aload_n 0, 1) := by decide +kernel
theorem dX6_copyFrom_34 : decode cX6_copyFrom 34 = .ok (.getfield 35, 3) := by decide +kernel
theorem dX6_copyFrom_37 : decode cX6_copyFrom 37 = .ok (.aload_n 1, 1) := by decide +kernel
theorem dX6_copyFrom_38 : decode cX6_copyFrom 38 = .ok (.getfield 35, 3) := by decide +kernel
theorem dX6_copyFrom_41 : decode cX6_copyFrom 41 = .ok (.invokevirtual 49, 3) := by decide +kernel
theorem dX6_copyFrom_44 : decode cX6_copyFrom 44 = .ok (.aload_n 0, 1) := by decide +kernel
theorem dX6_copyFrom_45 : decode cX6_copyFrom 45 = .ok (.aload_n 1, 1) := by decide +kernel
theorem dX6_copyFrom_46 : decode cX6_copyFrom 46 = .ok (.getfield 52, 3) := by decide +kernel
theorem dX6_copyFrom_49 : decode cX6_copyFrom 49 = .ok (.putfield 52, 3) := by decide +kernel
theorem dX6_copyFrom_52 : decode cX6_copyFrom 52 = .ok (.return_, 1) := by decide +kernel
theorem dX6_growReed_0 : decode cX6_growReed 0 = .ok (.iload_n 1, 1) := by decide +kernel
theorem dX6_growReed_1 : decode cX6_growReed 1 = .ok (.iload_n 2, 1) := by decide +kernel
theorem dX6_growReed_2 : decode cX6_growReed 2 = .ok (.invokestatic 56, 3) := by decide +kernel
theorem dX6_growReed_5 : decode cX6_growReed 5 = .ok (.istore_n 3, 1) := by decide +kernel
theorem dX6_growReed_6 : decode cX6_growReed 6 = .ok (.iload_n 3, 1) := by decide +kernel
theorem dX6_growReed_7 : decode cX6_growReed 7 = .ok (.iconst (-1), 1) := by decide +kernel
theorem dX6_growReed_8 : decode cX6_growReed 8 = .ok (.if_icmp .ne 5, 3) := by decide +kernel
theorem dX6_growReed_11 : decode cX6_growReed 11 = .ok (.iconst (-1), 1) := by decide +kernel
theorem dX6_growReed_12 : decode cX6_growReed 12 = .ok (.ireturn, 1) := by decide +kernel
theorem dX6_growReed_13 : decode cX6_growReed 13 = .ok (.aload_n 0, 1) := by decide +kernel
theorem dX6_growReed_14 : decode cX6_growReed 14 = .ok (.getfield 12, 3) := by decide +kernel
theorem dX6_growReed_17 : decode cX6_growReed 17 = .ok (.iload_n 3, 1) := by decide +kernel
theorem dX6_growReed_18 : decode cX6_growReed 18 = .ok (.invokevirtual 60, 3) := by decide +kernel
theorem dX6_growReed_21 : decode cX6_growReed 21 = .ok (.ifCond .ne 19, 3) := by decide +kernel
theorem dX6_growReed_24 : decode cX6_growReed 24 = .ok (.aload_n 0, 1) := by decide +kernel
theorem dX6_growReed_25 : decode cX6_growReed 25 = .ok (.getfield 21, 3) := by decide +kernel
theorem dX6_growReed_28 : decode cX6_growReed 28 = .ok (.iload_n 3, 1) := by decide +kernel
theorem dX6_growReed_29 : decode cX6_growReed 29 = .ok (.iconst (-1), 1) := by decide +kernel
theorem dX6_growReed_30 : decode cX6_growReed 30 = .ok (.invokevirtual 64, 3) := by decide +kernel
theorem dX6_growReed_33 : decode cX6_growReed 33 = .ok (.ifCond .ne 7, 3) := by decide +kernel
theorem dX6_growReed_36 : decode cX6_growReed 36 = .ok (.iconst 1, 1) := by decide +kernel
theorem dX6_growReed_37 : decode cX6_growReed 37 = .ok (.goto 4, 3) := by decide +kernel
theorem dX6_growReed_40 : decode cX6_growReed 40 = .ok (.iconst 0, 1) := by decide +kernel
theorem dX6_growReed_41 : decode cX6_growReed 41 = .ok (.istore 4, 2) := by decide +kernel
theorem dX6_growReed_43 : decode cX6_growReed 43 = .ok (.iload 4, 2) := by decide +kernel
theorem dX6_growReed_45 : decode cX6_growReed 45 = .ok (.ifCond .eq 15, 3) := by decide +kernel
theorem dX6_growReed_48 : decode cX6_growReed 48 = .ok (.aload_n 0, 1) := by decide +kernel
theorem dX6_growReed_49 : decode cX6_growReed 49 = .ok (.getfield 12, 3) := by decide +kernel
theorem dX6_growReed_52 : decode cX6_growReed 52 = .ok (.getfield 68, 3) := by decide +kernel
theorem dX6_growReed_55 : decode cX6_growReed 55 = .ok (.bipush 30, 2) := by decide +kernel
theorem dX6_growReed_57 : decode cX6_growReed 57 = .ok (.if_icmp .lt 6, 3) := by decide +kernel
theorem dX6_growReed_60 : decode cX6_growReed 60 = .ok (.bipush (-3), 2) := by decide +kernel
theorem dX6_growReed_62 : decode cX6_growReed 62 = .ok (.ireturn, 1) := by decide +kernel
theorem dX6_growReed_63 : decode cX6_growReed 63 = .ok (.aload_n 0, 1) := by decide +kernel
theorem dX6_growReed_64 : decode cX6_growReed 64 = .ok (.getfield 12, 3) := by decide +kernel
theorem dX6_growReed_67 : decode cX6_growReed 67 = .ok (.iload_n 3, 1) := by decide +kernel
theorem dX6_growReed_68 : decode cX6_growReed 68 = .ok (.invokevirtual 71, 3) := by decide +kernel
theorem dX6_growReed_71 : decode cX6_growReed 71 = .ok (.ireturn, 1) := by decide +kernel
theorem dX6_snapReed_0 : decode cX6_snapReed 0 = .ok (.iload_n 1, 1) := by decide +kernel
theorem dX6_snapReed_1 : decode cX6_snapReed 1 = .ok (.iload_n 2, 1) := by decide +kernel
theorem dX6_snapReed_2 : decode cX6_snapReed 2 = .ok (.invokestatic 56, 3) := by decide +kernel
theorem dX6_snapReed_5 : decode cX6_snapReed 5 = .ok (.istore_n 3, 1) := by decide +kernel
theorem dX6_snapReed_6 : decode cX6_snapReed 6 = .ok (.iload_n 3, 1) := by decide +kernel
theorem dX6_snapReed_7 : decode cX6_snapReed 7 = .ok (.iconst (-1), 1) := by decide +kernel
theorem dX6_snapReed_8 : decode cX6_snapReed 8 = .ok (.if_icmp .ne 5, 3) := by decide +kernel
theorem dX6_snapReed_11 : decode cX6_snapReed 11 = .ok (.iconst (-1), 1) := by decide +kernel
theorem dX6_snapReed_12 : decode cX6_snapReed 12 = .ok (.ireturn, 1) := by decide +kernel
theorem dX6_snapReed_13 : decode cX6_snapReed 13 = .ok (.aload_n 0, 1) := by decide +kernel
theorem dX6_snapReed_14 : decode cX6_snapReed 14 = .ok (.getfield 12, 3) := by decide +kernel
theorem dX6_snapReed_17 : decode cX6_snapReed 17 = .ok (.iload_n 3, 1) := by decide +kernel
theorem dX6_snapReed_18 : decode cX6_snapReed 18 = .ok (.invokevirtual 60, 3) := by decide +kernel
theorem dX6_snapReed_21 : decode cX6_snapReed 21 = .ok (.ifCond .ne 6, 3) := by decide +kernel
theorem dX6_snapReed_24 : decode cX6_snapReed 24 = .ok (.bipush (-2), 2) := by decide +kernel
theorem dX6_snapReed_26 : decode cX6_snapReed 26 = .ok (.ireturn, 1) := by decide +kernel
theorem dX6_snapReed_27 : decode cX6_snapReed 27 = .ok (.aload_n 0, 1) := by decide +kernel
theorem dX6_snapReed_28 : decode cX6_snapReed 28 = .ok (.getfield 12, 3) := by decide +kernel
theorem dX6_snapReed_31 : decode cX6_snapReed 31 = .ok (.iload_n 3, 1) := by decide +kernel
theorem dX6_snapReed_32 : decode cX6_snapReed 32 = .ok (.invokevirtual 60, 3) := by decide +kernel
theorem dX6_snapReed_35 : decode cX6_snapReed 35 = .ok (.iconst 2, 1) := by decide +kernel
theorem dX6_snapReed_36 : decode cX6_snapReed 36 = .ok (.if_icmp .ne 6, 3) := by decide +kernel
theorem dX6_snapReed_39 : decode cX6_snapReed 39 = .ok (.bipush (-3), 2) := by decide +kernel
theorem dX6_snapReed_41 : decode cX6_snapReed 41 = .ok (.ireturn, 1) := by decide +kernel
theorem dX6_snapReed_42 : decode cX6_snapReed 42 = .ok (.aload_n 0, 1) := by decide +kernel
theorem dX6_snapReed_43 : decode cX6_snapReed 43 = .ok (.getfield 12, 3) := by decide +kernel
theorem dX6_snapReed_46 : decode cX6_snapReed 46 = .ok (.iload_n 3, 1) := by decide +kernel
theorem dX6_snapReed_47 : decode cX6_snapReed 47 = .ok (.invokevirtual 74, 3) := by decide +kernel
theorem dX6_snapReed_50 : decode cX6_snapReed 50 = .ok (.ireturn, 1) := by decide +kernel
theorem dX6_cutReed_0 : decode cX6_cutReed 0 = .ok (.iload_n 1, 1) := by decide +kernel
theorem dX6_cutReed_1 : decode cX6_cutReed 1 = .ok (.iload_n 2, 1) := by decide +kernel
theorem dX6_cutReed_2 : decode cX6_cutReed 2 = .ok (.invokestatic 56, 3) := by decide +kernel
theorem dX6_cutReed_5 : decode cX6_cutReed 5 = .ok (.istore_n 3, 1) := by decide +kernel
theorem dX6_cutReed_6 : decode cX6_cutReed 6 = .ok (.iload_n 3, 1) := by decide +kernel
theorem dX6_cutReed_7 : decode cX6_cutReed 7 = .ok (.iconst (-1), 1) := by decide +kernel
theorem dX6_cutReed_8 : decode cX6_cutReed 8 = .ok (.if_icmp .ne 5, 3) := by decide +kernel
theorem dX6_cutReed_11 : decode cX6_cutReed 11 = .ok (.iconst (-1), 1) := by decide +kernel
theorem dX6_cutReed_12 : decode cX6_cutReed 12 = .ok (.ireturn, 1) := by decide +kernel
theorem dX6_cutReed_13 : decode cX6_cutReed 13 = .ok (.aload_n 0, 1) := by decide +kernel
theorem dX6_cutReed_14 : decode cX6_cutReed 14 = .ok (.getfield 12, 3) := by decide +kernel
theorem dX6_cutReed_17 : decode cX6_cutReed 17 = .ok (.iload_n 3, 1) := by decide +kernel
theorem dX6_cutReed_18 : decode cX6_cutReed 18 = .ok (.invokevirtual 60, 3) := by decide +kernel
theorem dX6_cutReed_21 : decode cX6_cutReed 21 = .ok (.ifCond .ne 6, 3) := by decide +kernel
theorem dX6_cutReed_24 : decode cX6_cutReed 24 = .ok (.bipush (-2), 2) := by decide +kernel
theorem dX6_cutReed_26 : decode cX6_cutReed 26 = .ok (.ireturn, 1) := by decide +kernel
theorem dX6_cutReed_27 : decode cX6_cutReed 27 = .ok (.aload_n 0, 1) := by decide +kernel
theorem dX6_cutReed_28 : decode cX6_cutReed 28 = .ok (.getfield 12, 3) := by decide +kernel
theorem dX6_cutReed_31 : decode cX6_cutReed 31 = .ok (.iload_n 3, 1) := by decide +kernel
theorem dX6_cutReed_32 : decode cX6_cutReed 32 = .ok (.invokevirtual 77, 3) := by decide +kernel
theorem dX6_cutReed_35 : decode cX6_cutReed 35 = .ok (.ireturn, 1) := by decide +kernel
theorem dX6_moveFog_0 : decode cX6_moveFog 0 = .ok (.iload_n 1, 1) := by decide +kernel
theorem dX6_moveFog_1 : decode cX6_moveFog 1 = .ok (.ifCond .lt 8, 3) := by decide +kernel
theorem dX6_moveFog_4 : decode cX6_moveFog 4 = .ok (.iload_n 1, 1) := by decide +kernel
theorem dX6_moveFog_5 : decode cX6_moveFog 5 = .ok (.iconst 2, 1) := by decide +kernel
theorem dX6_moveFog_6 : decode cX6_moveFog 6 = .ok (.if_icmp .le 6, 3) := by decide +kernel
theorem dX6_moveFog_9 : decode cX6_moveFog 9 = .ok (.bipush (-4), 2) := by decide +kernel
theorem dX6_moveFog_11 : decode cX6_moveFog 11 = .ok (.ireturn, 1) := by decide +kernel
theorem dX6_moveFog_12 : decode cX6_moveFog 12 = .ok (.aload_n 0, 1) := by decide +kernel
theorem dX6_moveFog_13 : decode cX6_moveFog 13 = .ok (.getfield 52, 3) := by decide +kernel
theorem dX6_moveFog_16 : decode cX6_moveFog 16 = .ok (.istore_n 2, 1) := by decide +kernel
theorem dX6_moveFog_17 : decode cX6_moveFog 17 = .ok (.aload_n 0, 1) := by decide +kernel
theorem dX6_moveFog_18 : decode cX6_moveFog 18 = .ok (.iload_n 1, 1) := by decide +kernel
theorem dX6_moveFog_19 : decode cX6_moveFog 19 = .ok (.putfield 52, 3) := by decide +kernel
theorem dX6_moveFog_22 : decode cX6_moveFog 22 = .ok (.iload_n 2, 1) := by decide +kernel
theorem dX6_moveFog_23 : decode cX6_moveFog 23 = .ok (.ireturn, 1) := by decide +kernel
theorem dX6_isFoggy_0 : decode cX6_isFoggy 0 = .ok (.aload_n 0, 1) := by decide +kernel
theorem dX6_isFoggy_1 : decode cX6_isFoggy 1 = .ok (.getfield 52, 3) := by decide +kernel
theorem dX6_isFoggy_4 : decode cX6_isFoggy 4 = .ok (.iconst 1, 1) := by decide +kernel
theorem dX6_isFoggy_5 : decode cX6_isFoggy 5 = .ok (.if_icmp .ne 11, 3) := by decide +kernel
theorem dX6_isFoggy_8 : decode cX6_isFoggy 8 = .ok (.iload_n 1, 1) := by decide +kernel
theorem dX6_isFoggy_9 : decode cX6_isFoggy 9 = .ok (.invokestatic 80, 3) := by decide +kernel
theorem dX6_isFoggy_12 : decode cX6_isFoggy 12 = .ok (.iconst 4, 1) := by decide +kernel
theorem dX6_isFoggy_13 : decode cX6_isFoggy 13 = .ok (.if_icmp .lt 19, 3) := by decide +kernel
theorem dX6_isFoggy_16 : decode cX6_isFoggy 16 = .ok (.aload_n 0, 1) := by decide +kernel
theorem dX6_isFoggy_17 : decode cX6_isFoggy 17 = .ok (.getfield 52, 3) := by decide +kernel
theorem dX6_isFoggy_20 : decode cX6_isFoggy 20 = .ok (.iconst 2, 1) := by decide +kernel
theorem dX6_isFoggy_21 : decode cX6_isFoggy 21 = .ok (.if_icmp .ne 15, 3) := by decide +kernel
theorem dX6_isFoggy_24 : decode cX6_isFoggy 24 = .ok (.iload_n 1, 1) := by decide +kernel
theorem dX6_isFoggy_25 : decode cX6_isFoggy 25 = .ok (.invokestatic 80, 3) := by decide +kernel
theorem dX6_isFoggy_28 : decode cX6_isFoggy 28 = .ok (.iconst 4, 1) := by decide +kernel
theorem dX6_isFoggy_29 : decode cX6_isFoggy 29 = .ok (.if_icmp .le 7, 3) := by decide +kernel
theorem dX6_isFoggy_32 : decode cX6_isFoggy 32 = .ok (.iconst 1, 1) := by decide +kernel
theorem dX6_isFoggy_33 : decode cX6_isFoggy 33 = .ok (.goto 4, 3) := by decide +kernel
theorem dX6_isFoggy_36 : decode cX6_isFoggy 36 = .ok (.iconst 0, 1) := by decide +kernel
theorem dX6_isFoggy_37 : decode cX6_isFoggy 37 = .ok (.ireturn, 1) := by decide +kernel
theorem dX6_launchBoat_0 : decode cX6_launchBoat 0 = .ok (.iload_n 1, 1) := by decide +kernel
theorem dX6_launchBoat_1 : decode cX6_launchBoat 1 = .ok (.iload_n 2, 1) := by decide +kernel
theorem dX6_launchBoat_2 : decode cX6_launchBoat 2 = .ok (.invokestatic 56, 3) := by decide +kernel
theorem dX6_launchBoat_5 : decode cX6_launchBoat 5 = .ok (.istore_n 3, 1) := by decide +kernel
theorem dX6_launchBoat_6 : decode cX6_launchBoat 6 = .ok (.iload_n 3, 1) := by decide +kernel
theorem dX6_launchBoat_7 : decode cX6_launchBoat 7 = .ok (.iconst (-1), 1) := by decide +kernel
theorem dX6_launchBoat_8 : decode cX6_launchBoat 8 = .ok (.if_icmp .ne 5, 3) := by decide +kernel
theorem dX6_launchBoat_11 : decode cX6_launchBoat 11 = .ok (.iconst (-1), 1) := by decide +kernel
theorem dX6_launchBoat_12 : decode cX6_launchBoat 12 = .ok (.ireturn, 1) := by decide +kernel
theorem dX6_launchBoat_13 : decode cX6_launchBoat 13 = .ok (.aload_n 0, 1) := by decide +kernel
theorem dX6_launchBoat_14 : decode cX6_launchBoat 14 = .ok (.getfield 21, 3) := by decide +kernel
theorem dX6_launchBoat_17 : decode cX6_launchBoat 17 = .ok (.getfield 83, 3) := by decide +kernel
theorem dX6_launchBoat_20 : decode cX6_launchBoat 20 = .ok (.iconst 4, 1) := by decide +kernel
theorem dX6_launchBoat_21 : decode cX6_launchBoat 21 = .ok (.if_icmp .lt 6, 3) := by decide +kernel
theorem dX6_launchBoat_24 : decode cX6_launchBoat 24 = .ok (.bipush (-3), 2) := by decide +kernel
theorem dX6_launchBoat_26 : decode cX6_launchBoat 26 = .ok (.ireturn, 1) := by decide +kernel
theorem dX6_launchBoat_27 : decode cX6_launchBoat 27 = .ok (.aload_n 0, 1) := by decide +kernel
theorem dX6_launchBoat_28 : decode cX6_launchBoat 28 = .ok (.getfield 12, 3) := by decide +kernel
theorem dX6_launchBoat_31 : decode cX6_launchBoat 31 = .ok (.iload_n 3, 1) := by decide +kernel
theorem dX6_launchBoat_32 : decode cX6_launchBoat 32 = .ok (.invokevirtual 84, 3) := by decide +kernel
theorem dX6_launchBoat_35 : decode cX6_launchBoat 35 = .ok (.ifCond .eq 15, 3) := by decide +kernel
theorem dX6_launchBoat_38 : decode cX6_launchBoat 38 = .ok (.aload_n 0, 1) := by decide +kernel
theorem dX6_launchBoat_39 : decode cX6_launchBoat 39 = .ok (.getfield 21, 3) := by decide +kernel
theorem dX6_launchBoat_42 : decode cX6_launchBoat 42 = .ok (.iload_n 3, 1) := by decide +kernel
theorem dX6_launchBoat_43 : decode cX6_launchBoat 43 = .ok (.iconst (-1), 1) := by decide +kernel
theorem dX6_launchBoat_44 : decode cX6_launchBoat 44 = .ok (.invokevirtual 64, 3) := by decide +kernel
theorem dX6_launchBoat_47 : decode cX6_launchBoat 47 = .ok (.ifCond .eq 6, 3) := by decide +kernel
theorem dX6_launchBoat_50 : decode cX6_launchBoat 50 = .ok (.bipush (-5), 2) := by decide +kernel
theorem dX6_launchBoat_52 : decode cX6_launchBoat 52 = .ok (.ireturn, 1) := by decide +kernel
theorem dX6_launchBoat_53 : decode cX6_launchBoat 53 = .ok (.aload_n 0, 1) := by decide +kernel
theorem dX6_launchBoat_54 : decode cX6_launchBoat 54 = .ok (.getfield 21, 3) := by decide +kernel
theorem dX6_launchBoat_57 : decode cX6_launchBoat 57 = .ok (.iload_n 3, 1) := by decide +kernel
theorem dX6_launchBoat_58 : decode cX6_launchBoat 58 = .ok (.invokevirtual 88, 3) := by decide +kernel
theorem dX6_launchBoat_61 : decode cX6_launchBoat 61 = .ok (.ireturn, 1) := by decide +kernel
theorem dX6_blockedPosition_0 : decode cX6_blockedPosition 0 = .ok (.aload_n 0, 1) := by decide +kernel
theorem dX6_blockedPosition_1 : decode cX6_blockedPosition 1 = .ok (.getfield 21, 3) := by decide +kernel
theorem dX6_blockedPosition_4 : decode cX6_blockedPosition 4 = .ok (.getfield 91, 3) := by decide +kernel
theorem dX6_blockedPosition_7 : decode cX6_blockedPosition 7 = .ok (.iload_n 1, 1) := by decide +kernel
theorem dX6_blockedPosition_8 : decode cX6_blockedPosition 8 = .ok (.iaload, 1) := by decide +kernel
theorem dX6_blockedPosition_9 : decode cX6_blockedPosition 9 = .ok (.istore_n 3, 1) := by decide +kernel
theorem dX6_blockedPosition_10 : decode cX6_blockedPosition 10 = .ok (.iconst 0, 1) := by decide +kernel
theorem dX6_blockedPosition_11 : decode cX6_blockedPosition 11 = .ok (.istore 4, 2) := by decide +kernel
theorem dX6_blockedPosition_13 : decode cX6_blockedPosition 13 = .ok (.iload 4, 2) := by decide +kernel
theorem dX6_blockedPosition_15 : decode cX6_blockedPosition 15 = .ok (.aload_n 0, 1) := by decide +kernel
theorem dX6_blockedPosition_16 : decode cX6_blockedPosition 16 = .ok (.getfield 28, 3) := by decide +kernel
theorem dX6_blockedPosition_19 : decode cX6_blockedPosition 19 = .ok (.getfield 95, 3) := by decide +kernel
theorem dX6_blockedPosition_22 : decode cX6_blockedPosition 22 = .ok (.iload_n 2, 1) := by decide +kernel
theorem dX6_blockedPosition_23 : decode cX6_blockedPosition 23 = .ok (.iaload, 1) := by decide +kernel
theorem dX6_blockedPosition_24 : decode cX6_blockedPosition 24 = .ok (.if_icmp .ge 55, 3) := by decide +kernel
theorem dX6_blockedPosition_27 : decode cX6_blockedPosition 27 = .ok (.iload_n 3, 1) := by decide +kernel
theorem dX6_blockedPosition_28 : decode cX6_blockedPosition 28 = .ok (.aload_n 0, 1) := by decide +kernel
theorem dX6_blockedPosition_29 : decode cX6_blockedPosition 29 = .ok (.getfield 28, 3) := by decide +kernel
theorem dX6_blockedPosition_32 : decode cX6_blockedPosition 32 = .ok (.iload_n 2, 1) := by decide +kernel
theorem dX6_blockedPosition_33 : decode cX6_blockedPosition 33 = .ok (.iload 4, 2) := by decide +kernel
theorem dX6_blockedPosition_35 : decode cX6_blockedPosition 35 = .ok (.invokevirtual 98, 3) := by decide +kernel
theorem dX6_blockedPosition_38 : decode cX6_blockedPosition 38 = .ok (.invokestatic 101, 3) := by decide +kernel
theorem dX6_blockedPosition_41 : decode cX6_blockedPosition 41 = .ok (.istore_n 3, 1) := by decide +kernel
theorem dX6_blockedPosition_42 : decode cX6_blockedPosition 42 = .ok (.iload_n 3, 1) := by decide +kernel
theorem dX6_blockedPosition_43 : decode cX6_blockedPosition 43 = .ok (.iconst (-1), 1) := by decide +kernel
theorem dX6_blockedPosition_44 : decode cX6_blockedPosition 44 = .ok (.if_icmp .eq 26, 3) := by decide +kernel
theorem dX6_blockedPosition_47 : decode cX6_blockedPosition 47 = .ok (.aload_n 0, 1) := by decide +kernel
theorem dX6_blockedPosition_48 : decode cX6_blockedPosition 48 = .ok (.getfield 12, 3) := by decide +kernel
theorem dX6_blockedPosition_51 : decode cX6_blockedPosition 51 = .ok (.iload_n 3, 1) := by decide +kernel
theorem dX6_blockedPosition_52 : decode cX6_blockedPosition 52 = .ok (.invokevirtual 84, 3) := by decide +kernel
theorem dX6_blockedPosition_55 : decode cX6_blockedPosition 55 = .ok (.ifCond .eq 15, 3) := by decide +kernel
theorem dX6_blockedPosition_58 : decode cX6_blockedPosition 58 = .ok (.aload_n 0, 1) := by decide +kernel
theorem dX6_blockedPosition_59 : decode cX6_blockedPosition 59 = .ok (.getfield 21, 3) := by decide +kernel
theorem dX6_blockedPosition_62 : decode cX6_blockedPosition 62 = .ok (.iload_n 3, 1) := by decide +kernel
theorem dX6_blockedPosition_63 : decode cX6_blockedPosition 63 = .ok (.iload_n 1, 1) := by decide +kernel
theorem dX6_blockedPosition_64 : decode cX6_blockedPosition 64 = .ok (.invokevirtual 64, 3) := by decide +kernel
theorem dX6_blockedPosition_67 : decode cX6_blockedPosition 67 = .ok (.ifCond .eq 6, 3) := by decide +kernel
theorem dX6_blockedPosition_70 : decode cX6_blockedPosition 70 = .ok (.iload 4, 2) := by decide +kernel
theorem dX6_blockedPosition_72 : decode cX6_blockedPosition 72 = .ok (.ireturn, 1) := by decide +kernel
theorem dX6_blockedPosition_73 : decode cX6_blockedPosition 73 = .ok (.iinc 4 1, 3) := by decide +kernel
theorem dX6_blockedPosition_76 : decode cX6_blockedPosition 76 = .ok (.goto (-63), 3) := by decide +kernel
theorem dX6_blockedPosition_79 : decode cX6_blockedPosition 79 = .ok (.iconst (-1), 1) := by decide +kernel
theorem dX6_blockedPosition_80 : decode cX6_blockedPosition 80 = .ok (.ireturn, 1) := by decide +kernel
theorem dX6_sailBy_0 : decode cX6_sailBy 0 = .ok (.aload_n 0, 1) := by decide +kernel
theorem dX6_sailBy_1 : decode cX6_sailBy 1 = .ok (.getfield 21, 3) := by decide +kernel
theorem dX6_sailBy_4 : decode cX6_sailBy 4 = .ok (.iload_n 1, 1) := by decide +kernel
theorem dX6_sailBy_5 : decode cX6_sailBy 5 = .ok (.invokevirtual 104, 3) := by decide +kernel
theorem dX6_sailBy_8 : decode cX6_sailBy 8 = .ok (.istore_n 3, 1) := by decide +kernel
theorem dX6_sailBy_9 : decode cX6_sailBy 9 = .ok (.iload_n 3, 1) := by decide +kernel
theorem dX6_sailBy_10 : decode cX6_sailBy 10 = .ok (.iconst (-1), 1) := by decide +kernel
theorem dX6_sailBy_11 : decode cX6_sailBy 11 = .ok (.if_icmp .ne 6, 3) := by decide +kernel
theorem dX6_sailBy_14 : decode cX6_sailBy 14 = .ok (.bipush (-2), 2) := by decide +kernel
theorem dX6_sailBy_16 : decode cX6_sailBy 16 = .ok (.ireturn, 1) := by decide +kernel
theorem dX6_sailBy_17 : decode cX6_sailBy 17 = .ok (.iload_n 2, 1) := by decide +kernel
theorem dX6_sailBy_18 : decode cX6_sailBy 18 = .ok (.invokestatic 107, 3) := by decide +kernel
theorem dX6_sailBy_21 : decode cX6_sailBy 21 = .ok (.ifCond .ne 5, 3) := by decide +kernel
theorem dX6_sailBy_24 : decode cX6_sailBy 24 = .ok (.iconst (-1), 1) := by decide +kernel
theorem dX6_sailBy_25 : decode cX6_sailBy 25 = .ok (.ireturn, 1) := by decide +kernel
theorem dX6_sailBy_26 : decode cX6_sailBy 26 = .ok (.aload_n 0, 1) := by decide +kernel
theorem dX6_sailBy_27 : decode cX6_sailBy 27 = .ok (.iload_n 3, 1) := by decide +kernel
theorem dX6_sailBy_28 : decode cX6_sailBy 28 = .ok (.iload_n 2, 1) := by decide +kernel
theorem dX6_sailBy_29 : decode cX6_sailBy 29 = .ok (.invokevirtual 110, 3) := by decide +kernel
theorem dX6_sailBy_32 : decode cX6_sailBy 32 = .ok (.iconst (-1), 1) := by decide +kernel
theorem dX6_sailBy_33 : decode cX6_sailBy 33 = .ok (.if_icmp .eq 6, 3) := by decide +kernel
theorem dX6_sailBy_36 : decode cX6_sailBy 36 = .ok (.bipush (-5), 2) := by decide +kernel
theorem dX6_sailBy_38 : decode cX6_sailBy 38 = .ok (.ireturn, 1) := by decide +kernel
theorem dX6_sailBy_39 : decode cX6_sailBy 39 = .ok (.aload_n 0, 1) := by decide +kernel
theorem dX6_sailBy_40 : decode cX6_sailBy 40 = .ok (.getfield 28, 3) := by decide +kernel
theorem dX6_sailBy_43 : decode cX6_sailBy 43 = .ok (.getfield 95, 3) := by decide +kernel
theorem dX6_sailBy_46 : decode cX6_sailBy 46 = .ok (.iload_n 2, 1) := by decide +kernel
theorem dX6_sailBy_47 : decode cX6_sailBy 47 = .ok (.iaload, 1) := by decide +kernel
theorem dX6_sailBy_48 : decode cX6_sailBy 48 = .ok (.istore 4, 2) := by decide +kernel
theorem dX6_sailBy_50 : decode cX6_sailBy 50 = .ok (.iconst 0, 1) := by decide +kernel
theorem dX6_sailBy_51 : decode cX6_sailBy 51 = .ok (.istore 5, 2) := by decide +kernel
theorem dX6_sailBy_53 : decode cX6_sailBy 53 = .ok (.iload 5, 2) := by decide +kernel
theorem dX6_sailBy_55 : decode cX6_sailBy 55 = .ok (.iload 4, 2) := by decide +kernel
theorem dX6_sailBy_57 : decode cX6_sailBy 57 = .ok (.if_icmp .ge 27, 3) := by decide +kernel
theorem dX6_sailBy_60 : decode cX6_sailBy 60 = .ok (.aload_n 0, 1) := by decide +kernel
theorem dX6_sailBy_61 : decode cX6_sailBy 61 = .ok (.getfield 21, 3) := by decide +kernel
theorem dX6_sailBy_64 : decode cX6_sailBy 64 = .ok (.iload_n 3, 1) := by decide +kernel
theorem dX6_sailBy_65 : decode cX6_sailBy 65 = .ok (.aload_n 0, 1) := by decide +kernel
theorem dX6_sailBy_66 : decode cX6_sailBy 66 = .ok (.getfield 28, 3) := by decide +kernel
theorem dX6_sailBy_69 : decode cX6_sailBy 69 = .ok (.iload_n 2, 1) := by decide +kernel
theorem dX6_sailBy_70 : decode cX6_sailBy 70 = .ok (.iload 5, 2) := by decide +kernel
theorem dX6_sailBy_72 : decode cX6_sailBy 72 = .ok (.invokevirtual 98, 3) := by decide +kernel
theorem dX6_sailBy_75 : decode cX6_sailBy 75 = .ok (.invokevirtual 113, 3) := by decide +kernel
theorem dX6_sailBy_78 : decode cX6_sailBy 78 = .ok (.iinc 5 1, 3) := by decide +kernel
theorem dX6_sailBy_81 : decode cX6_sailBy 81 = .ok (.goto (-28), 3) := by decide +kernel
theorem dX6_sailBy_84 : decode cX6_sailBy 84 = .ok (.iload 4, 2) := by decide +kernel
theorem dX6_sailBy_86 : decode cX6_sailBy 86 = .ok (.iconst 2, 1) := by decide +kernel
theorem dX6_sailBy_87 : decode cX6_sailBy 87 = .ok (.irem, 1) := by decide +kernel
theorem dX6_sailBy_88 : decode cX6_sailBy 88 = .ok (.ifCond .ne 10, 3) := by decide +kernel
theorem dX6_sailBy_91 : decode cX6_sailBy 91 = .ok (.iload 4, 2) := by decide +kernel
theorem dX6_sailBy_93 : decode cX6_sailBy 93 = .ok (.iconst 1, 1) := by decide +kernel
theorem dX6_sailBy_94 : decode cX6_sailBy 94 = .ok (.iadd, 1) := by decide +kernel
theorem dX6_sailBy_95 : decode cX6_sailBy 95 = .ok (.goto 5, 3) := by decide +kernel
theorem dX6_sailBy_98 : decode cX6_sailBy 98 = .ok (.iload 4, 2) := by decide +kernel
theorem dX6_sailBy_100 : decode cX6_sailBy 100 = .ok (.istore 5, 2) := by decide +kernel
theorem dX6_sailBy_102 : decode cX6_sailBy 102 = .ok (.aload_n 0, 1) := by decide +kernel
theorem dX6_sailBy_103 : decode cX6_sailBy 103 = .ok (.getfield 21, 3) := by decide +kernel
theorem dX6_sailBy_106 : decode cX6_sailBy 106 = .ok (.iload_n 3, 1) := by decide +kernel
theorem dX6_sailBy_107 : decode cX6_sailBy 107 = .ok (.iload 5, 2) := by decide +kernel
theorem dX6_sailBy_109 : decode cX6_sailBy 109 = .ok (.invokevirtual 117, 3) := by decide +kernel
theorem dX6_sailBy_112 : decode cX6_sailBy 112 = .ok (.iload 5, 2) := by decide +kernel
theorem dX6_sailBy_114 : decode cX6_sailBy 114 = .ok (.ireturn, 1) := by decide +kernel
theorem dX6_layWay_0 : decode cX6_layWay 0 = .ok (.aload_n 0, 1) := by decide +kernel
theorem dX6_layWay_1 : decode cX6_layWay 1 = .ok (.getfield 21, 3) := by decide +kernel
theorem dX6_layWay_4 : decode cX6_layWay 4 = .ok (.iload_n 2, 1) := by decide +kernel
theorem dX6_layWay_5 : decode cX6_layWay 5 = .ok (.invokevirtual 104, 3) := by decide +kernel
theorem dX6_layWay_8 : decode cX6_layWay 8 = .ok (.istore 6, 2) := by decide +kernel
theorem dX6_layWay_10 : decode cX6_layWay 10 = .ok (.iload 6, 2) := by decide +kernel
theorem dX6_layWay_12 : decode cX6_layWay 12 = .ok (.iconst (-1), 1) := by decide +kernel
theorem dX6_layWay_13 : decode cX6_layWay 13 = .ok (.if_icmp .ne 6, 3) := by decide +kernel
theorem dX6_layWay_16 : decode cX6_layWay 16 = .ok (.bipush (-2), 2) := by decide +kernel
theorem dX6_layWay_18 : decode cX6_layWay 18 = .ok (.ireturn, 1) := by decide +kernel
theorem dX6_layWay_19 : decode cX6_layWay 19 = .ok (.iload_n 3, 1) := by decide +kernel
theorem dX6_layWay_20 : decode cX6_layWay 20 = .ok (.iload 4, 2) := by decide +kernel
theorem dX6_layWay_22 : decode cX6_layWay 22 = .ok (.invokestatic 56, 3) := by decide +kernel
theorem dX6_layWay_25 : decode cX6_layWay 25 = .ok (.istore 7, 2) := by decide +kernel
theorem dX6_layWay_27 : decode cX6_layWay 27 = .ok (.iload 7, 2) := by decide +kernel
theorem dX6_layWay_29 : decode cX6_layWay 29 = .ok (.iconst (-1), 1) := by decide +kernel
theorem dX6_layWay_30 : decode cX6_layWay 30 = .ok (.if_icmp .ne 5, 3) := by decide +kernel
theorem dX6_layWay_33 : decode cX6_layWay 33 = .ok (.iconst (-1), 1) := by decide +kernel
theorem dX6_layWay_34 : decode cX6_layWay 34 = .ok (.ireturn, 1) := by decide +kernel
theorem dX6_layWay_35 : decode cX6_layWay 35 = .ok (.aload_n 0, 1) := by decide +kernel
theorem dX6_layWay_36 : decode cX6_layWay 36 = .ok (.getfield 21, 3) := by decide +kernel
theorem dX6_layWay_39 : decode cX6_layWay 39 = .ok (.getfield 91, 3) := by decide +kernel
theorem dX6_layWay_42 : decode cX6_layWay 42 = .ok (.iload 6, 2) := by decide +kernel
theorem dX6_layWay_44 : decode cX6_layWay 44 = .ok (.iaload, 1) := by decide +kernel
theorem dX6_layWay_45 : decode cX6_layWay 45 = .ok (.istore 8, 2) := by decide +kernel
theorem dX6_layWay_47 : decode cX6_layWay 47 = .ok (.aload_n 1, 1) := by decide +kernel
theorem dX6_layWay_48 : decode cX6_layWay 48 = .ok (.aload_n 0, 1) := by decide +kernel
theorem dX6_layWay_49 : decode cX6_layWay 49 = .ok (.invokevirtual 120, 3) := by decide +kernel
theorem dX6_layWay_52 : decode cX6_layWay 52 = .ok (.aload_n 1, 1) := by decide +kernel
theorem dX6_layWay_53 : decode cX6_layWay 53 = .ok (.iload 7, 2) := by decide +kernel
theorem dX6_layWay_55 : decode cX6_layWay 55 = .ok (.invokevirtual 126, 3) := by decide +kernel
theorem dX6_layWay_58 : decode cX6_layWay 58 = .ok (.aload_n 1, 1) := by decide +kernel
theorem dX6_layWay_59 : decode cX6_layWay 59 = .ok (.getfield 130, 3) := by decide +kernel
theorem dX6_layWay_62 : decode cX6_layWay 62 = .ok (.iload 8, 2) := by decide +kernel
theorem dX6_layWay_64 : decode cX6_layWay 64 = .ok (.iaload, 1) := by decide +kernel
theorem dX6_layWay_65 : decode cX6_layWay 65 = .ok (.istore 9, 2) := by decide +kernel
theorem dX6_layWay_67 : decode cX6_layWay 67 = .ok (.iload 9, 2) := by decide +kernel
theorem dX6_layWay_69 : decode cX6_layWay 69 = .ok (.ldc 133, 2) := by decide +kernel
theorem dX6_layWay_71 : decode cX6_layWay 71 = .ok (.if_icmp .lt 6, 3) := by decide +kernel
theorem dX6_layWay_74 : decode cX6_layWay 74 = .ok (.bipush (-2), 2) := by decide +kernel
theorem dX6_layWay_76 : decode cX6_layWay 76 = .ok (.ireturn, 1) := by decide +kernel
theorem dX6_layWay_77 : decode cX6_layWay 77 = .ok (.iload 5, 2) := by decide +kernel
theorem dX6_layWay_79 : decode cX6_layWay 79 = .ok (.invokestatic 107, 3) := by decide +kernel
theorem dX6_layWay_82 : decode cX6_layWay 82 = .ok (.ifCond .ne 5, 3) := by decide +kernel
theorem dX6_layWay_85 : decode cX6_layWay 85 = .ok (.iconst (-1), 1) := by decide +kernel
theorem dX6_layWay_86 : decode cX6_layWay 86 = .ok (.ireturn, 1) := by decide +kernel
theorem dX6_layWay_87 : decode cX6_layWay 87 = .ok (.iload 9, 2) := by decide +kernel
theorem dX6_layWay_89 : decode cX6_layWay 89 = .ok (.bipush 20, 2) := by decide +kernel
theorem dX6_layWay_91 : decode cX6_layWay 91 = .ok (.if_icmp .le 6, 3) := by decide +kernel
theorem dX6_layWay_94 : decode cX6_layWay 94 = .ok (.bipush (-3), 2) := by decide +kernel
theorem dX6_layWay_96 : decode cX6_layWay 96 = .ok (.ireturn, 1) := by decide +kernel
theorem dX6_layWay_97 : decode cX6_layWay 97 = .ok (.aload_n 0, 1) := by decide +kernel
theorem dX6_layWay_98 : decode cX6_layWay 98 = .ok (.getfield 28, 3) := by decide +kernel
theorem dX6_layWay_101 : decode cX6_layWay 101 = .ok (.iload 5, 2) := by decide +kernel
theorem dX6_layWay_103 : decode cX6_layWay 103 = .ok (.invokevirtual 134, 3) := by decide +kernel
theorem dX6_layWay_106 : decode cX6_layWay 106 = .ok (.pop, 1) := by decide +kernel
theorem dX6_layWay_107 : decode cX6_layWay 107 = .ok (.iload 8, 2) := by decide +kernel
theorem dX6_layWay_109 : decode cX6_layWay 109 = .ok (.istore 10, 2) := by decide +kernel
theorem dX6_layWay_111 : decode cX6_layWay 111 = .ok (.iload 9, 2) := by decide +kernel
theorem dX6_layWay_113 : decode cX6_layWay 113 = .ok (.iconst 1, 1) := by decide +kernel
theorem dX6_layWay_114 : decode cX6_layWay 114 = .ok (.isub, 1) := by decide +kernel
theorem dX6_layWay_115 : decode cX6_layWay 115 = .ok (.istore 11, 2) := by decide +kernel
theorem dX6_layWay_117 : decode cX6_layWay 117 = .ok (.iload 11, 2) := by decide +kernel
theorem dX6_layWay_119 : decode cX6_layWay 119 = .ok (.ifCond .lt 49, 3) := by decide +kernel
theorem dX6_layWay_122 : decode cX6_layWay 122 = .ok (.iload 10, 2) := by decide +kernel
theorem dX6_layWay_124 : decode cX6_layWay 124 = .ok (.iconst (-1), 1) := by decide +kernel
theorem dX6_layWay_125 : decode cX6_layWay 125 = .ok (.if_icmp .eq 43, 3) := by decide +kernel
theorem dX6_layWay_128 : decode cX6_layWay 128 = .ok (.aload_n 1, 1) := by decide +kernel
theorem dX6_layWay_129 : decode cX6_layWay 129 = .ok (.iload 10, 2) := by decide +kernel
theorem dX6_layWay_131 : decode cX6_layWay 131 = .ok (.iload 11, 2) := by decide +kernel
theorem dX6_layWay_133 : decode cX6_layWay 133 = .ok (.invokevirtual 137, 3) := by decide +kernel
theorem dX6_layWay_136 : decode cX6_layWay 136 = .ok (.istore 12, 2) := by decide +kernel
theorem dX6_layWay_138 : decode cX6_layWay 138 = .ok (.aload_n 0, 1) := by decide +kernel
theorem dX6_layWay_139 : decode cX6_layWay 139 = .ok (.getfield 28, 3) := by decide +kernel
theorem dX6_layWay_142 : decode cX6_layWay 142 = .ok (.iload 5, 2) := by decide +kernel
theorem dX6_layWay_144 : decode cX6_layWay 144 = .ok (.iload 12, 2) := by decide +kernel
theorem dX6_layWay_146 : decode cX6_layWay 146 = .ok (.invokestatic 140, 3) := by decide +kernel
theorem dX6_layWay_149 : decode cX6_layWay 149 = .ok (.invokevirtual 144, 3) := by decide +kernel
theorem dX6_layWay_152 : decode cX6_layWay 152 = .ok (.pop, 1) := by decide +kernel
theorem dX6_layWay_153 : decode cX6_layWay 153 = .ok (.iload 10, 2) := by decide +kernel
theorem dX6_layWay_155 : decode cX6_layWay 155 = .ok (.iload 12, 2) := by decide +kernel
theorem dX6_layWay_157 : decode cX6_layWay 157 = .ok (.invokestatic 101, 3) := by decide +kernel
theorem dX6_layWay_160 : decode cX6_layWay 160 = .ok (.istore 10, 2) := by decide +kernel
theorem dX6_layWay_162 : decode cX6_layWay 162 = .ok (.iinc 11 (-1), 3) := by decide +kernel
theorem dX6_layWay_165 : decode cX6_layWay 165 = .ok (.goto (-48), 3) := by decide +kernel
theorem dX6_layWay_168 : decode cX6_layWay 168 = .ok (.iload 9, 2) := by decide +kernel
theorem dX6_layWay_170 : decode cX6_layWay 170 = .ok (.ireturn, 1) := by decide +kernel
theorem dX6_signOf_0 : decode cX6_signOf 0 = .ok (.aload_n 0, 1) := by decide +kernel
theorem dX6_signOf_1 : decode cX6_signOf 1 = .ok (.getfield 21, 3) := by decide +kernel
theorem dX6_signOf_4 : decode cX6_signOf 4 = .ok (.iload_n 1, 1) := by decide +kernel
theorem dX6_signOf_5 : decode cX6_signOf 5 = .ok (.invokevirtual 148, 3) := by decide +kernel
theorem dX6_signOf_8 : decode cX6_signOf 8 = .ok (.istore_n 2, 1) := by decide +kernel
theorem dX6_signOf_9 : decode cX6_signOf 9 = .ok (.iload_n 2, 1) := by decide +kernel
theorem dX6_signOf_10 : decode cX6_signOf 10 = .ok (.iconst (-1), 1) := by decide +kernel
theorem dX6_signOf_11 : decode cX6_signOf 11 = .ok (.if_icmp .eq 20, 3) := by decide +kernel
theorem dX6_signOf_14 : decode cX6_signOf 14 = .ok (.bipush 48, 2) := by decide +kernel
theorem dX6_signOf_16 : decode cX6_signOf 16 = .ok (.aload_n 0, 1) := by decide +kernel
theorem dX6_signOf_17 : decode cX6_signOf 17 = .ok (.getfield 21, 3) := by decide +kernel
theorem dX6_signOf_20 : decode cX6_signOf 20 = .ok (.getfield 151, 3) := by decide +kernel
theorem dX6_signOf_23 : decode cX6_signOf 23 = .ok (.iload_n 2, 1) := by decide +kernel
theorem dX6_signOf_24 : decode cX6_signOf 24 = .ok (.iaload, 1) := by decide +kernel
theorem dX6_signOf_25 : decode cX6_signOf 25 = .ok (.bipush 10, 2) := by decide +kernel
theorem dX6_signOf_27 : decode cX6_signOf 27 = .ok (.irem, 1) := by decide +kernel
theorem dX6_signOf_28 : decode cX6_signOf 28 = .ok (.iadd, 1) := by decide +kernel
theorem dX6_signOf_29 : decode cX6_signOf 29 = .ok (.i2c, 1) := by decide +kernel
theorem dX6_signOf_30 : decode cX6_signOf 30 = .ok (.ireturn, 1) := by decide +kernel
theorem dX6_signOf_31 : decode cX6_signOf 31 = .ok (.aload_n 0, 1) := by decide +kernel
theorem dX6_signOf_32 : decode cX6_signOf 32 = .ok (.getfield 21, 3) := by decide +kernel
theorem dX6_signOf_35 : decode cX6_signOf 35 = .ok (.iload_n 1, 1) := by decide +kernel
theorem dX6_signOf_36 : decode cX6_signOf 36 = .ok (.invokestatic 154, 3) := by decide +kernel
theorem dX6_signOf_39 : decode cX6_signOf 39 = .ok (.invokevirtual 148, 3) := by decide +kernel
theorem dX6_signOf_42 : decode cX6_signOf 42 = .ok (.iconst (-1), 1) := by decide +kernel
theorem dX6_signOf_43 : decode cX6_signOf 43 = .ok (.if_icmp .eq 6, 3) := by decide +kernel
theorem dX6_signOf_46 : decode cX6_signOf 46 = .ok (.bipush 126, 2) := by decide +kernel
theorem dX6_signOf_48 : decode cX6_signOf 48 = .ok (.ireturn, 1) := by decide +kernel
theorem dX6_signOf_49 : decode cX6_signOf 49 = .ok (.aload_n 0, 1) := by decide +kernel
theorem dX6_signOf_50 : decode cX6_signOf 50 = .ok (.getfield 12, 3) := by decide +kernel
theorem dX6_signOf_53 : decode cX6_signOf 53 = .ok (.iload_n 1, 1) := by decide +kernel
theorem dX6_signOf_54 : decode cX6_signOf 54 = .ok (.invokevirtual 60, 3) := by decide +kernel
theorem dX6_signOf_57 : decode cX6_signOf 57 = .ok (.lookupswitch 33 #[(1, 27), (2, 30)], 27) := by decide +kernel
theorem dX6_signOf_84 : decode cX6_signOf 84 = .ok (.bipush 35, 2) := by decide +kernel
theorem dX6_signOf_86 : decode cX6_signOf 86 = .ok (.ireturn, 1) := by decide +kernel
theorem dX6_signOf_87 : decode cX6_signOf 87 = .ok (.bipush 39, 2) := by decide +kernel
theorem dX6_signOf_89 : decode cX6_signOf 89 = .ok (.ireturn, 1) := by decide +kernel
theorem dX6_signOf_90 : decode cX6_signOf 90 = .ok (.bipush 46, 2) := by decide +kernel
theorem dX6_signOf_92 : decode cX6_signOf 92 = .ok (.ireturn, 1) := by decide +kernel
theorem dX7_init_0 : decode cX7_init 0 = .ok (.aload_n 0, 1) := by decide +kernel
theorem dX7_init_1 : decode cX7_init 1 = .ok (.invokespecial 3, 3) := by decide +kernel
theorem dX7_init_4 : decode cX7_init 4 = .ok (.aload_n 0, 1) := by decide +kernel
theorem dX7_init_5 : decode cX7_init 5 = .ok (.bipush 64, 2) := by decide +kernel
theorem dX7_init_7 : decode cX7_init 7 = .ok (.newarray .int, 2) := by decide +kernel
theorem dX7_init_9 : decode cX7_init 9 = .ok (.putfield 9, 3) := by decide +kernel
theorem dX7_init_12 : decode cX7_init 12 = .ok (.aload_n 0, 1) := by decide +kernel
theorem dX7_init_13 : decode cX7_init 13 = .ok (.sipush 256, 3) := by decide +kernel
theorem dX7_init_16 : decode cX7_init 16 = .ok (.newarray .int, 2) := by decide +kernel
theorem dX7_init_18 : decode cX7_init 18 = .ok (.putfield 15, 3) := by decide +kernel
theorem dX7_init_21 : decode cX7_init 21 = .ok (.return_, 1) := by decide +kernel
theorem dX7_costByTable_0 : decode cX7_costByTable 0 = .ok (.aload_n 0, 1) := by decide +kernel
theorem dX7_costByTable_1 : decode cX7_costByTable 1 = .ok (.aload_n 1, 1) := by decide +kernel
theorem dX7_costByTable_2 : decode cX7_costByTable 2 = .ok (.invokevirtual 18, 3) := by decide +kernel
theorem dX7_costByTable_5 : decode cX7_costByTable 5 = .ok (.aload_n 0, 1) := by decide +kernel
theorem dX7_costByTable_6 : decode cX7_costByTable 6 = .ok (.aload_n 1, 1) := by decide +kernel
theorem dX7_costByTable_7 : decode cX7_costByTable 7 = .ok (.getfield 22, 3) := by decide +kernel
theorem dX7_costByTable_10 : decode cX7_costByTable 10 = .ok (.invokevirtual 28, 3) := by decide +kernel
theorem dX7_costByTable_13 : decode cX7_costByTable 13 = .ok (.aload_n 0, 1) := by decide +kernel
theorem dX7_costByTable_14 : decode cX7_costByTable 14 = .ok (.getfield 15, 3) := by decide +kernel
theorem dX7_costByTable_17 : decode cX7_costByTable 17 = .ok (.aload_n 1, 1) := by decide +kernel
theorem dX7_costByTable_18 : decode cX7_costByTable 18 = .ok (.getfield 22, 3) := by decide +kernel
theorem dX7_costByTable_21 : decode cX7_costByTable 21 = .ok (.invokestatic 32, 3) := by decide +kernel
theorem dX7_costByTable_24 : decode cX7_costByTable 24 = .ok (.iaload, 1) := by decide +kernel
theorem dX7_costByTable_25 : decode cX7_costByTable 25 = .ok (.ireturn, 1) := by decide +kernel
theorem dX7_costByTrying_0 : decode cX7_costByTrying 0 = .ok (.aload_n 0, 1) := by decide +kernel
theorem dX7_costByTrying_1 : decode cX7_costByTrying 1 = .ok (.aload_n 1, 1) := by decide +kernel
theorem dX7_costByTrying_2 : decode cX7_costByTrying 2 = .ok (.invokevirtual 18, 3) := by decide +kernel
theorem dX7_costByTrying_5 : decode cX7_costByTrying 5 = .ok (.aload_n 0, 1) := by decide +kernel
theorem dX7_costByTrying_6 : decode cX7_costByTrying 6 = .ok (.getfield 9, 3) := by decide +kernel
theorem dX7_costByTrying_9 : decode cX7_costByTrying 9 = .ok (.aload_n 1, 1) := by decide +kernel
theorem dX7_costByTrying_10 : decode cX7_costByTrying 10 = .ok (.getfield 22, 3) := by decide +kernel
theorem dX7_costByTrying_13 : decode cX7_costByTrying 13 = .ok (.invokestatic 32, 3) := by decide +kernel
theorem dX7_costByTrying_16 : decode cX7_costByTrying 16 = .ok (.iconst 0, 1) := by decide +kernel
theorem dX7_costByTrying_17 : decode cX7_costByTrying 17 = .ok (.invokestatic 36, 3) := by decide +kernel
theorem dX7_costByTrying_20 : decode cX7_costByTrying 20 = .ok (.ireturn, 1) := by decide +kernel
theorem dX7_bestPartner_0 : decode cX7_bestPartner 0 = .ok (.aload_n 0, 1) := by decide +kernel
theorem dX7_bestPartner_1 : decode cX7_bestPartner 1 = .ok (.aload_n 1, 1) := by decide +kernel
theorem dX7_bestPartner_2 : decode cX7_bestPartner 2 = .ok (.invokevirtual 18, 3) := by decide +kernel
theorem dX7_bestPartner_5 : decode cX7_bestPartner 5 = .ok (.aload_n 0, 1) := by decide +kernel
theorem dX7_bestPartner_6 : decode cX7_bestPartner 6 = .ok (.aload_n 1, 1) := by decide +kernel
theorem dX7_bestPartner_7 : decode cX7_bestPartner 7 = .ok (.getfield 22, 3) := by decide +kernel
theorem dX7_bestPartner_10 : decode cX7_bestPartner 10 = .ok (.invokevirtual 28, 3) := by decide +kernel
theorem dX7_bestPartner_13 : decode cX7_bestPartner 13 = .ok (.aload_n 1, 1) := by decide +kernel
theorem dX7_bestPartner_14 : decode cX7_bestPartner 14 = .ok (.getfield 22, 3) := by decide +kernel
theorem dX7_bestPartner_17 : decode cX7_bestPartner 17 = .ok (.invokestatic 32, 3) := by decide +kernel
theorem dX7_bestPartner_20 : decode cX7_bestPartner 20 = .ok (.istore_n 3, 1) := by decide +kernel
theorem dX7_bestPartner_21 : decode cX7_bestPartner 21 = .ok (.iconst 0, 1) := by decide +kernel
theorem dX7_bestPartner_22 : decode cX7_bestPartner 22 = .ok (.istore 4, 2) := by decide +kernel
theorem dX7_bestPartner_24 : decode cX7_bestPartner 24 = .ok (.iload 4, 2) := by decide +kernel
theorem dX7_bestPartner_26 : decode cX7_bestPartner 26 = .ok (.iconst 4, 1) := by decide +kernel
theorem dX7_bestPartner_27 : decode cX7_bestPartner 27 = .ok (.if_icmp .ge 53, 3) := by decide +kernel
theorem dX7_bestPartner_30 : decode cX7_bestPartner 30 = .ok (.iload_n 3, 1) := by decide +kernel
theorem dX7_bestPartner_31 : decode cX7_bestPartner 31 = .ok (.ifCond .eq 49, 3) := by decide +kernel
theorem dX7_bestPartner_34 : decode cX7_bestPartner 34 = .ok (.iload_n 3, 1) := by decide +kernel
theorem dX7_bestPartner_35 : decode cX7_bestPartner 35 = .ok (.invokestatic 40, 3) := by decide +kernel
theorem dX7_bestPartner_38 : decode cX7_bestPartner 38 = .ok (.istore 5, 2) := by decide +kernel
theorem dX7_bestPartner_40 : decode cX7_bestPartner 40 = .ok (.aload_n 0, 1) := by decide +kernel
theorem dX7_bestPartner_41 : decode cX7_bestPartner 41 = .ok (.iload_n 3, 1) := by decide +kernel
theorem dX7_bestPartner_42 : decode cX7_bestPartner 42 = .ok (.invokevirtual 43, 3) := by decide +kernel
theorem dX7_bestPartner_45 : decode cX7_bestPartner 45 = .ok (.istore 6, 2) := by decide +kernel
theorem dX7_bestPartner_47 : decode cX7_bestPartner 47 = .ok (.iload 5, 2) := by decide +kernel
theorem dX7_bestPartner_49 : decode cX7_bestPartner 49 = .ok (.iload_n 2, 1) := by decide +kernel
theorem dX7_bestPartner_50 : decode cX7_bestPartner 50 = .ok (.if_icmp .ne 6, 3) := by decide +kernel
theorem dX7_bestPartner_53 : decode cX7_bestPartner 53 = .ok (.iload 6, 2) := by decide +kernel
theorem dX7_bestPartner_55 : decode cX7_bestPartner 55 = .ok (.ireturn, 1) := by decide +kernel
theorem dX7_bestPartner_56 : decode cX7_bestPartner 56 = .ok (.iload 6, 2) := by decide +kernel
theorem dX7_bestPartner_58 : decode cX7_bestPartner 58 = .ok (.iload_n 2, 1) := by decide +kernel
theorem dX7_bestPartner_59 : decode cX7_bestPartner 59 = .ok (.if_icmp .ne 6, 3) := by decide +kernel
theorem dX7_bestPartner_62 : decode cX7_bestPartner 62 = .ok (.iload 5, 2) := by decide +kernel
theorem dX7_bestPartner_64 : decode cX7_bestPartner 64 = .ok (.ireturn, 1) := by decide +kernel
theorem dX7_bestPartner_65 : decode cX7_bestPartner 65 = .ok (.iload_n 3, 1) := by decide +kernel
theorem dX7_bestPartner_66 : decode cX7_bestPartner 66 = .ok (.iload 5, 2) := by decide +kernel
theorem dX7_bestPartner_68 : decode cX7_bestPartner 68 = .ok (.iload 6, 2) := by decide +kernel
theorem dX7_bestPartner_70 : decode cX7_bestPartner 70 = .ok (.invokestatic 46, 3) := by decide +kernel
theorem dX7_bestPartner_73 : decode cX7_bestPartner 73 = .ok (.istore_n 3, 1) := by decide +kernel
theorem dX7_bestPartner_74 : decode cX7_bestPartner 74 = .ok (.iinc 4 1, 3) := by decide +kernel
theorem dX7_bestPartner_77 : decode cX7_bestPartner 77 = .ok (.goto (-53), 3) := by decide +kernel
theorem dX7_bestPartner_80 : decode cX7_bestPartner 80 = .ok (.iload_n 2, 1) := by decide +kernel
theorem dX7_bestPartner_81 : decode cX7_bestPartner 81 = .ok (.ireturn, 1) := by decide +kernel
theorem dX7_fillCosts_0 : decode cX7_fillCosts 0 = .ok (.iconst 0, 1) := by decide +kernel
theorem dX7_fillCosts_1 : decode cX7_fillCosts 1 = .ok (.istore_n 2, 1) := by decide +kernel
theorem dX7_fillCosts_2 : decode cX7_fillCosts 2 = .ok (.iload_n 2, 1) := by decide +kernel
theorem dX7_fillCosts_3 : decode cX7_fillCosts 3 = .ok (.aload_n 1, 1) := by decide +kernel
theorem dX7_fillCosts_4 : decode cX7_fillCosts 4 = .ok (.getfield 22, 3) := by decide +kernel
theorem dX7_fillCosts_7 : decode cX7_fillCosts 7 = .ok (.if_icmp .ge 42, 3) := by decide +kernel
theorem dX7_fillCosts_10 : decode cX7_fillCosts 10 = .ok (.iconst 0, 1) := by decide +kernel
theorem dX7_fillCosts_11 : decode cX7_fillCosts 11 = .ok (.istore_n 3, 1) := by decide +kernel
theorem dX7_fillCosts_12 : decode cX7_fillCosts 12 = .ok (.iload_n 3, 1) := by decide +kernel
theorem dX7_fillCosts_13 : decode cX7_fillCosts 13 = .ok (.aload_n 1, 1) := by decide +kernel
theorem dX7_fillCosts_14 : decode cX7_fillCosts 14 = .ok (.getfield 22, 3) := by decide +kernel
theorem dX7_fillCosts_17 : decode cX7_fillCosts 17 = .ok (.if_icmp .ge 26, 3) := by decide +kernel
theorem dX7_fillCosts_20 : decode cX7_fillCosts 20 = .ok (.aload_n 0, 1) := by decide +kernel
theorem dX7_fillCosts_21 : decode cX7_fillCosts 21 = .ok (.getfield 9, 3) := by decide +kernel
theorem dX7_fillCosts_24 : decode cX7_fillCosts 24 = .ok (.iload_n 2, 1) := by decide +kernel
theorem dX7_fillCosts_25 : decode cX7_fillCosts 25 = .ok (.bipush 8, 2) := by decide +kernel
theorem dX7_fillCosts_27 : decode cX7_fillCosts 27 = .ok (.imul, 1) := by decide +kernel
theorem dX7_fillCosts_28 : decode cX7_fillCosts 28 = .ok (.iload_n 3, 1) := by decide +kernel
theorem dX7_fillCosts_29 : decode cX7_fillCosts 29 = .ok (.iadd, 1) := by decide +kernel
theorem dX7_fillCosts_30 : decode cX7_fillCosts 30 = .ok (.aload_n 1, 1) := by decide +kernel
theorem dX7_fillCosts_31 : decode cX7_fillCosts 31 = .ok (.iload_n 2, 1) := by decide +kernel
theorem dX7_fillCosts_32 : decode cX7_fillCosts 32 = .ok (.iload_n 3, 1) := by decide +kernel
theorem dX7_fillCosts_33 : decode cX7_fillCosts 33 = .ok (.invokevirtual 50, 3) := by decide +kernel
theorem dX7_fillCosts_36 : decode cX7_fillCosts 36 = .ok (.iastore, 1) := by decide +kernel
theorem dX7_fillCosts_37 : decode cX7_fillCosts 37 = .ok (.iinc 3 1, 3) := by decide +kernel
theorem dX7_fillCosts_40 : decode cX7_fillCosts 40 = .ok (.goto (-28), 3) := by decide +kernel
theorem dX7_fillCosts_43 : decode cX7_fillCosts 43 = .ok (.iinc 2 1, 3) := by decide +kernel
theorem dX7_fillCosts_46 : decode cX7_fillCosts 46 = .ok (.goto (-44), 3) := by decide +kernel
theorem dX7_fillCosts_49 : decode cX7_fillCosts 49 = .ok (.return_, 1) := by decide +kernel
theorem dX7_fillTable_0 : decode cX7_fillTable 0 = .ok (.aload_n 0, 1) := by decide +kernel
theorem dX7_fillTable_1 : decode cX7_fillTable 1 = .ok (.getfield 15, 3) := by decide +kernel
theorem dX7_fillTable_4 : decode cX7_fillTable 4 = .ok (.iconst 0, 1) := by decide +kernel
theorem dX7_fillTable_5 : decode cX7_fillTable 5 = .ok (.iconst 0, 1) := by decide +kernel
theorem dX7_fillTable_6 : decode cX7_fillTable 6 = .ok (.iastore, 1) := by decide +kernel
theorem dX7_fillTable_7 : decode cX7_fillTable 7 = .ok (.iconst 1, 1) := by decide +kernel
theorem dX7_fillTable_8 : decode cX7_fillTable 8 = .ok (.istore_n 2, 1) := by decide +kernel
theorem dX7_fillTable_9 : decode cX7_fillTable 9 = .ok (.iload_n 2, 1) := by decide +kernel
theorem dX7_fillTable_10 : decode cX7_fillTable 10 = .ok (.iload_n 1, 1) := by decide +kernel
theorem dX7_fillTable_11 : decode cX7_fillTable 11 = .ok (.invokestatic 32, 3) := by decide +kernel
theorem dX7_fillTable_14 : decode cX7_fillTable 14 = .ok (.if_icmp .gt 67, 3) := by decide +kernel
theorem dX7_fillTable_17 : decode cX7_fillTable 17 = .ok (.iload_n 2, 1) := by decide +kernel
theorem dX7_fillTable_18 : decode cX7_fillTable 18 = .ok (.invokestatic 40, 3) := by decide +kernel
theorem dX7_fillTable_21 : decode cX7_fillTable 21 = .ok (.istore_n 3, 1) := by decide +kernel
theorem dX7_fillTable_22 : decode cX7_fillTable 22 = .ok (.ldc 54, 2) := by decide +kernel
theorem dX7_fillTable_24 : decode cX7_fillTable 24 = .ok (.istore 4, 2) := by decide +kernel
theorem dX7_fillTable_26 : decode cX7_fillTable 26 = .ok (.iload_n 3, 1) := by decide +kernel
theorem dX7_fillTable_27 : decode cX7_fillTable 27 = .ok (.iconst 1, 1) := by decide +kernel
theorem dX7_fillTable_28 : decode cX7_fillTable 28 = .ok (.iadd, 1) := by decide +kernel
theorem dX7_fillTable_29 : decode cX7_fillTable 29 = .ok (.istore 5, 2) := by decide +kernel
theorem dX7_fillTable_31 : decode cX7_fillTable 31 = .ok (.iload 5, 2) := by decide +kernel
theorem dX7_fillTable_33 : decode cX7_fillTable 33 = .ok (.iload_n 1, 1) := by decide +kernel
theorem dX7_fillTable_34 : decode cX7_fillTable 34 = .ok (.if_icmp .ge 33, 3) := by decide +kernel
theorem dX7_fillTable_37 : decode cX7_fillTable 37 = .ok (.iload_n 2, 1) := by decide +kernel
theorem dX7_fillTable_38 : decode cX7_fillTable 38 = .ok (.iload 5, 2) := by decide +kernel
theorem dX7_fillTable_40 : decode cX7_fillTable 40 = .ok (.invokestatic 55, 3) := by decide +kernel
theorem dX7_fillTable_43 : decode cX7_fillTable 43 = .ok (.ifCond .eq 18, 3) := by decide +kernel
theorem dX7_fillTable_46 : decode cX7_fillTable 46 = .ok (.iload 4, 2) := by decide +kernel
theorem dX7_fillTable_48 : decode cX7_fillTable 48 = .ok (.aload_n 0, 1) := by decide +kernel
theorem dX7_fillTable_49 : decode cX7_fillTable 49 = .ok (.iload_n 2, 1) := by decide +kernel
theorem dX7_fillTable_50 : decode cX7_fillTable 50 = .ok (.iload_n 3, 1) := by decide +kernel
theorem dX7_fillTable_51 : decode cX7_fillTable 51 = .ok (.iload 5, 2) := by decide +kernel
theorem dX7_fillTable_53 : decode cX7_fillTable 53 = .ok (.invokevirtual 59, 3) := by decide +kernel
theorem dX7_fillTable_56 : decode cX7_fillTable 56 = .ok (.invokestatic 62, 3) := by decide +kernel
theorem dX7_fillTable_59 : decode cX7_fillTable 59 = .ok (.istore 4, 2) := by decide +kernel
theorem dX7_fillTable_61 : decode cX7_fillTable 61 = .ok (.iinc 5 1, 3) := by decide +kernel
theorem dX7_fillTable_64 : decode cX7_fillTable 64 = .ok (.goto (-33), 3) := by decide +kernel
theorem dX7_fillTable_67 : decode cX7_fillTable 67 = .ok (.aload_n 0, 1) := by decide +kernel
theorem dX7_fillTable_68 : decode cX7_fillTable 68 = .ok (.getfield 15, 3) := by decide +kernel
theorem dX7_fillTable_71 : decode cX7_fillTable 71 = .ok (.iload_n 2, 1) := by decide +kernel
theorem dX7_fillTable_72 : decode cX7_fillTable 72 = .ok (.iload 4, 2) := by decide +kernel
theorem dX7_fillTable_74 : decode cX7_fillTable 74 = .ok (.iastore, 1) := by decide +kernel
theorem dX7_fillTable_75 : decode cX7_fillTable 75 = .ok (.iinc 2 1, 3) := by decide +kernel
theorem dX7_fillTable_78 : decode cX7_fillTable 78 = .ok (.goto (-69), 3) := by decide +kernel
theorem dX7_fillTable_81 : decode cX7_fillTable 81 = .ok (.return_, 1) := by decide +kernel
theorem dX7_costOfChoice_0 : decode cX7_costOfChoice 0 = .ok (.aload_n 0, 1) := by decide +kernel
theorem dX7_costOfChoice_1 : decode cX7_costOfChoice 1 = .ok (.getfield 9, 3) := by decide +kernel
theorem dX7_costOfChoice_4 : decode cX7_costOfChoice 4 = .ok (.iload_n 2, 1) := by decide +kernel
theorem dX7_costOfChoice_5 : decode cX7_costOfChoice 5 = .ok (.bipush 8, 2) := by decide +kernel
theorem dX7_costOfChoice_7 : decode cX7_costOfChoice 7 = .ok (.imul, 1) := by decide +kernel
theorem dX7_costOfChoice_8 : decode cX7_costOfChoice 8 = .ok (.iload_n 3, 1) := by decide +kernel
theorem dX7_costOfChoice_9 : decode cX7_costOfChoice 9 = .ok (.iadd, 1) := by decide +kernel
theorem dX7_costOfChoice_10 : decode cX7_costOfChoice 10 = .ok (.iaload, 1) := by decide +kernel
theorem dX7_costOfChoice_11 : decode cX7_costOfChoice 11 = .ok (.aload_n 0, 1) := by decide +kernel
theorem dX7_costOfChoice_12 : decode cX7_costOfChoice 12 = .ok (.getfield 15, 3) := by decide +kernel
theorem dX7_costOfChoice_15 : decode cX7_costOfChoice 15 = .ok (.iload_n 1, 1) := by decide +kernel
theorem dX7_costOfChoice_16 : decode cX7_costOfChoice 16 = .ok (.iload_n 2, 1) := by decide +kernel
theorem dX7_costOfChoice_17 : decode cX7_costOfChoice 17 = .ok (.iload_n 3, 1) := by decide +kernel
theorem dX7_costOfChoice_18 : decode cX7_costOfChoice 18 = .ok (.invokestatic 46, 3) := by decide +kernel
theorem dX7_costOfChoice_21 : decode cX7_costOfChoice 21 = .ok (.iaload, 1) := by decide +kernel
theorem dX7_costOfChoice_22 : decode cX7_costOfChoice 22 = .ok (.iadd, 1) := by decide +kernel
theorem dX7_costOfChoice_23 : decode cX7_costOfChoice 23 = .ok (.ireturn, 1) := by decide +kernel
theorem dX7_firstBestPartner_0 : decode cX7_firstBestPartner 0 = .ok (.iload_n 1, 1) := by decide +kernel
theorem dX7_firstBestPartner_1 : decode cX7_firstBestPartner 1 = .ok (.invokestatic 40, 3) := by decide +kernel
theorem dX7_firstBestPartner_4 : decode cX7_firstBestPartner 4 = .ok (.istore_n 2, 1) := by decide +kernel
theorem dX7_firstBestPartner_5 : decode cX7_firstBestPartner 5 = .ok (.iload_n 2, 1) := by decide +kernel
theorem dX7_firstBestPartner_6 : decode cX7_firstBestPartner 6 = .ok (.iconst 1, 1) := by decide +kernel
theorem dX7_firstBestPartner_7 : decode cX7_firstBestPartner 7 = .ok (.iadd, 1) := by decide +kernel
theorem dX7_firstBestPartner_8 : decode cX7_firstBestPartner 8 = .ok (.istore_n 3, 1) := by decide +kernel
theorem dX7_firstBestPartner_9 : decode cX7_firstBestPartner 9 = .ok (.iload_n 3, 1) := by decide +kernel
theorem dX7_firstBestPartner_10 : decode cX7_firstBestPartner 10 = .ok (.bipush 8, 2) := by decide +kernel
theorem dX7_firstBestPartner_12 : decode cX7_firstBestPartner 12 = .ok (.if_icmp .ge 35, 3) := by decide +kernel
theorem dX7_firstBestPartner_15 : decode cX7_firstBestPartner 15 = .ok (.iload_n 1, 1) := by decide +kernel
theorem dX7_firstBestPartner_16 : decode cX7_firstBestPartner 16 = .ok (.iload_n 3, 1) := by decide +kernel
theorem dX7_firstBestPartner_17 : decode cX7_firstBestPartner 17 = .ok (.invokestatic 55, 3) := by decide +kernel
theorem dX7_firstBestPartner_20 : decode cX7_firstBestPartner 20 = .ok (.ifCond .eq 21, 3) := by decide +kernel
theorem dX7_firstBestPartner_23 : decode cX7_firstBestPartner 23 = .ok (.aload_n 0, 1) := by decide +kernel
theorem dX7_firstBestPartner_24 : decode cX7_firstBestPartner 24 = .ok (.iload_n 1, 1) := by decide +kernel
theorem dX7_firstBestPartner_25 : decode cX7_firstBestPartner 25 = .ok (.iload_n 2, 1) := by decide +kernel
theorem dX7_firstBestPartner_26 : decode cX7_firstBestPartner 26 = .ok (.iload_n 3, 1) := by decide +kernel
theorem dX7_firstBestPartner_27 : decode cX7_firstBestPartner 27 = .ok (.invokevirtual 59, 3) := by decide +kernel
theorem dX7_firstBestPartner_30 : decode cX7_firstBestPartner 30 = .ok (.aload_n 0, 1) := by decide +kernel
theorem dX7_firstBestPartner_31 : decode cX7_firstBestPartner 31 = .ok (.getfield 15, 3) := by decide +kernel
theorem dX7_firstBestPartner_34 : decode cX7_firstBestPartner 34 = .ok (.iload_n 1, 1) := by decide +kernel
theorem dX7_firstBestPartner_35 : decode cX7_firstBestPartner 35 = .ok (.iaload, 1) := by decide +kernel
theorem dX7_firstBestPartner_36 : decode cX7_firstBestPartner 36 = .ok (.if_icmp .ne 5, 3) := by decide +kernel
theorem dX7_firstBestPartner_39 : decode cX7_firstBestPartner 39 = .ok (.iload_n 3, 1) := by decide +kernel
theorem dX7_firstBestPartner_40 : decode cX7_firstBestPartner 40 = .ok (.ireturn, 1) := by decide +kernel
theorem dX7_firstBestPartner_41 : decode cX7_firstBestPartner 41 = .ok (.iinc 3 1, 3) := by decide +kernel
theorem dX7_firstBestPartner_44 : decode cX7_firstBestPartner 44 = .ok (.goto (-35), 3) := by decide +kernel
theorem dX7_firstBestPartner_47 : decode cX7_firstBestPartner 47 = .ok (.iload_n 2, 1) := by decide +kernel
theorem dX7_firstBestPartner_48 : decode cX7_firstBestPartner 48 = .ok (.ireturn, 1) := by decide +kernel
theorem dX7_leastCost_0 : decode cX7_leastCost 0 = .ok (.iload_n 1, 1) := by decide +kernel
theorem dX7_leastCost_1 : decode cX7_leastCost 1 = .ok (.ifCond .eq 8, 3) := by decide +kernel
theorem dX7_leastCost_4 : decode cX7_leastCost 4 = .ok (.iload_n 2, 1) := by decide +kernel
theorem dX7_leastCost_5 : decode cX7_leastCost 5 = .ok (.iconst 4, 1) := by decide +kernel
theorem dX7_leastCost_6 : decode cX7_leastCost 6 = .ok (.if_icmp .lt 5, 3) := by decide +kernel
theorem dX7_leastCost_9 : decode cX7_leastCost 9 = .ok (.iconst 0, 1) := by decide +kernel
theorem dX7_leastCost_10 : decode cX7_leastCost 10 = .ok (.ireturn, 1) := by decide +kernel
theorem dX7_leastCost_11 : decode cX7_leastCost 11 = .ok (.iload_n 1, 1) := by decide +kernel
theorem dX7_leastCost_12 : decode cX7_leastCost 12 = .ok (.invokestatic 40, 3) := by decide +kernel
theorem dX7_leastCost_15 : decode cX7_leastCost 15 = .ok (.istore_n 3, 1) := by decide +kernel
theorem dX7_leastCost_16 : decode cX7_leastCost 16 = .ok (.ldc 54, 2) := by decide +kernel
theorem dX7_leastCost_18 : decode cX7_leastCost 18 = .ok (.istore 4, 2) := by decide +kernel
theorem dX7_leastCost_20 : decode cX7_leastCost 20 = .ok (.iload_n 3, 1) := by decide +kernel
theorem dX7_leastCost_21 : decode cX7_leastCost 21 = .ok (.iconst 1, 1) := by decide +kernel
theorem dX7_leastCost_22 : decode cX7_leastCost 22 = .ok (.iadd, 1) := by decide +kernel
theorem dX7_leastCost_23 : decode cX7_leastCost 23 = .ok (.istore 5, 2) := by decide +kernel
theorem dX7_leastCost_25 : decode cX7_leastCost 25 = .ok (.iload 5, 2) := by decide +kernel
theorem dX7_leastCost_27 : decode cX7_leastCost 27 = .ok (.bipush 8, 2) := by decide +kernel
theorem dX7_leastCost_29 : decode cX7_leastCost 29 = .ok (.if_icmp .ge 53, 3) := by decide +kernel
theorem dX7_leastCost_32 : decode cX7_leastCost 32 = .ok (.iload_n 1, 1) := by decide +kernel
theorem dX7_leastCost_33 : decode cX7_leastCost 33 = .ok (.iload 5, 2) := by decide +kernel
theorem dX7_leastCost_35 : decode cX7_leastCost 35 = .ok (.invokestatic 55, 3) := by decide +kernel
theorem dX7_leastCost_38 : decode cX7_leastCost 38 = .ok (.ifCond .eq 38, 3) := by decide +kernel
theorem dX7_leastCost_41 : decode cX7_leastCost 41 = .ok (.aload_n 0, 1) := by decide +kernel
theorem dX7_leastCost_42 : decode cX7_leastCost 42 = .ok (.iload_n 1, 1) := by decide +kernel
theorem dX7_leastCost_43 : decode cX7_leastCost 43 = .ok (.iload_n 3, 1) := by decide +kernel
theorem dX7_leastCost_44 : decode cX7_leastCost 44 = .ok (.iload 5, 2) := by decide +kernel
theorem dX7_leastCost_46 : decode cX7_leastCost 46 = .ok (.invokestatic 46, 3) := by decide +kernel
theorem dX7_leastCost_49 : decode cX7_leastCost 49 = .ok (.iload_n 2, 1) := by decide +kernel
theorem dX7_leastCost_50 : decode cX7_leastCost 50 = .ok (.iconst 1, 1) := by decide +kernel
theorem dX7_leastCost_51 : decode cX7_leastCost 51 = .ok (.iadd, 1) := by decide +kernel
theorem dX7_leastCost_52 : decode cX7_leastCost 52 = .ok (.invokestatic 36, 3) := by decide +kernel
theorem dX7_leastCost_55 : decode cX7_leastCost 55 = .ok (.istore 6, 2) := by decide +kernel
theorem dX7_leastCost_57 : decode cX7_leastCost 57 = .ok (.iload 4, 2) := by decide +kernel
theorem dX7_leastCost_59 : decode cX7_leastCost 59 = .ok (.aload_n 0, 1) := by decide +kernel
theorem dX7_leastCost_60 : decode cX7_leastCost 60 = .ok (.iload_n 3, 1) := by decide +kernel
theorem dX7_leastCost_61 : decode cX7_leastCost 61 = .ok (.bipush 8, 2) := by decide +kernel
theorem dX7_leastCost_63 : decode cX7_leastCost 63 = .ok (.imul, 1) := by decide +kernel
theorem dX7_leastCost_64 : decode cX7_leastCost 64 = .ok (.iload 5, 2) := by decide +kernel
theorem dX7_leastCost_66 : decode cX7_leastCost 66 = .ok (.iadd, 1) := by decide +kernel
theorem dX7_leastCost_67 : decode cX7_leastCost 67 = .ok (.iaload, 1) := by decide +kernel
theorem dX7_leastCost_68 : decode cX7_leastCost 68 = .ok (.iload 6, 2) := by decide +kernel
theorem dX7_leastCost_70 : decode cX7_leastCost 70 = .ok (.iadd, 1) := by decide +kernel
theorem dX7_leastCost_71 : decode cX7_leastCost 71 = .ok (.invokestatic 62, 3) := by decide +kernel
theorem dX7_leastCost_74 : decode cX7_leastCost 74 = .ok (.istore 4, 2) := by decide +kernel
theorem dX7_leastCost_76 : decode cX7_leastCost 76 = .ok (.iinc 5 1, 3) := by decide +kernel
theorem dX7_leastCost_79 : decode cX7_leastCost 79 = .ok (.goto (-54), 3) := by decide +kernel
theorem dX7_leastCost_82 : decode cX7_leastCost 82 = .ok (.iload 4, 2) := by decide +kernel
theorem dX7_leastCost_84 : decode cX7_leastCost 84 = .ok (.ireturn, 1) := by decide +kernel
theorem dX7_allOf_0 : decode cX7_allOf 0 = .ok (.iconst 1, 1) := by decide +kernel
theorem dX7_allOf_1 : decode cX7_allOf 1 = .ok (.iload_n 0, 1) := by decide +kernel
theorem dX7_allOf_2 : decode cX7_allOf 2 = .ok (.ishl, 1) := by decide +kernel
theorem dX7_allOf_3 : decode cX7_allOf 3 = .ok (.iconst 1, 1) := by decide +kernel
theorem dX7_allOf_4 : decode cX7_allOf 4 = .ok (.isub, 1) := by decide +kernel
theorem dX7_allOf_5 : decode cX7_allOf 5 = .ok (.ireturn, 1) := by decide +kernel
theorem dX7_holds_0 : decode cX7_holds 0 = .ok (.iload_n 0, 1) := by decide +kernel
theorem dX7_holds_1 : decode cX7_holds 1 = .ok (.iconst 1, 1) := by decide +kernel
theorem dX7_holds_2 : decode cX7_holds 2 = .ok (.iload_n 1, 1) := by decide +kernel
theorem dX7_holds_3 : decode cX7_holds 3 = .ok (.ishl, 1) := by decide +kernel
theorem dX7_holds_4 : decode cX7_holds 4 = .ok (.iand, 1) := by decide +kernel
theorem dX7_holds_5 : decode cX7_holds 5 = .ok (.ifCond .eq 7, 3) := by decide +kernel
theorem dX7_holds_8 : decode cX7_holds 8 = .ok (.iconst 1, 1) := by decide +kernel
theorem dX7_holds_9 : decode cX7_holds 9 = .ok (.goto 4, 3) := by decide +kernel
theorem dX7_holds_12 : decode cX7_holds 12 = .ok (.iconst 0, 1) := by decide +kernel
theorem dX7_holds_13 : decode cX7_holds 13 = .ok (.ireturn, 1) := by decide +kernel
theorem dX7_without_0 : decode cX7_without 0 = .ok (.iload_n 0, 1) := by decide +kernel
theorem dX7_without_1 : decode cX7_without 1 = .ok (.iconst 1, 1) := by decide +kernel
theorem dX7_without_2 : decode cX7_without 2 = .ok (.iload_n 1, 1) := by decide +kernel
theorem dX7_without_3 : decode cX7_without 3 = .ok (.ishl, 1) := by decide +kernel
theorem dX7_without_4 : decode cX7_without 4 = .ok (.iconst (-1), 1) := by decide +kernel
theorem dX7_without_5 : decode cX7_without 5 = .ok (.ixor, 1) := by decide +kernel
theorem dX7_without_6 : decode cX7_without 6 = .ok (.iand, 1) := by decide +kernel
theorem dX7_without_7 : decode cX7_without 7 = .ok (.iconst 1, 1) := by decide +kernel
theorem dX7_without_8 : decode cX7_without 8 = .ok (.iload_n 2, 1) := by decide +kernel
theorem dX7_without_9 : decode cX7_without 9 = .ok (.ishl, 1) := by decide +kernel
theorem dX7_without_10 : decode cX7_without 10 = .ok (.iconst (-1), 1) := by decide +kernel
theorem dX7_without_11 : decode cX7_without 11 = .ok (.ixor, 1) := by decide +kernel
theorem dX7_without_12 : decode cX7_without 12 = .ok (.iand, 1) := by decide +kernel
theorem dX7_without_13 : decode cX7_without 13 = .ok (.ireturn, 1) := by decide +kernel
theorem dX7_firstOf_0 : decode cX7_firstOf 0 = .ok (.iconst 0, 1) := by decide +kernel
theorem dX7_firstOf_1 : decode cX7_firstOf 1 = .ok (.istore_n 1, 1) := by decide +kernel
theorem dX7_firstOf_2 : decode cX7_firstOf 2 = .ok (.iload_n 1, 1) := by decide +kernel
theorem dX7_firstOf_3 : decode cX7_firstOf 3 = .ok (.bipush 7, 2) := by decide +kernel
theorem dX7_firstOf_5 : decode cX7_firstOf 5 = .ok (.if_icmp .ge 19, 3) := by decide +kernel
theorem dX7_firstOf_8 : decode cX7_firstOf 8 = .ok (.iload_n 0, 1) := by decide +kernel
theorem dX7_firstOf_9 : decode cX7_firstOf 9 = .ok (.iload_n 1, 1) := by decide +kernel
theorem dX7_firstOf_10 : decode cX7_firstOf 10 = .ok (.invokestatic 55, 3) := by decide +kernel
theorem dX7_firstOf_13 : decode cX7_firstOf 13 = .ok (.ifCond .eq 5, 3) := by decide +kernel
theorem dX7_firstOf_16 : decode cX7_firstOf 16 = .ok (.iload_n 1, 1) := by decide +kernel
theorem dX7_firstOf_17 : decode cX7_firstOf 17 = .ok (.ireturn, 1) := by decide +kernel
theorem dX7_firstOf_18 : decode cX7_firstOf 18 = .ok (.iinc 1 1, 3) := by decide +kernel
theorem dX7_firstOf_21 : decode cX7_firstOf 21 = .ok (.goto (-19), 3) := by decide +kernel
theorem dX7_firstOf_24 : decode cX7_firstOf 24 = .ok (.bipush 7, 2) := by decide +kernel
theorem dX7_firstOf_26 : decode cX7_firstOf 26 = .ok (.ireturn, 1) := by decide +kernel
theorem dX8_init_0 : decode cX8_init 0 = .ok (.aload_n 0, 1) := by decide +kernel
theorem dX8_init_1 : decode cX8_init 1 = .ok (.invokespecial 3, 3) := by decide +kernel
theorem dX8_init_4 : decode cX8_init 4 = .ok (.aload_n 0, 1) := by decide +kernel
theorem dX8_init_5 : decode cX8_init 5 = .ok (.bipush 120, 2) := by decide +kernel
theorem dX8_init_7 : decode cX8_init 7 = .ok (.newarray .int, 2) := by decide +kernel
theorem dX8_init_9 : decode cX8_init 9 = .ok (.putfield 9, 3) := by decide +kernel
theorem dX8_init_12 : decode cX8_init 12 = .ok (.aload_n 0, 1) := by decide +kernel
theorem dX8_init_13 : decode cX8_init 13 = .ok (.bipush 6, 2) := by decide +kernel
theorem dX8_init_15 : decode cX8_init 15 = .ok (.newarray .int, 2) := by decide +kernel
theorem dX8_init_17 : decode cX8_init 17 = .ok (.putfield 15, 3) := by decide +kernel
theorem dX8_init_20 : decode cX8_init 20 = .ok (.return_, 1) := by decide +kernel
theorem dX8_copyFrom_0 : decode cX8_copyFrom 0 = .ok (.aload_n 1, 1) := by decide +kernel
theorem dX8_copyFrom_1 : decode cX8_copyFrom 1 = .ok (.getfield 9, 3) := by decide +kernel
theorem dX8_copyFrom_4 : decode cX8_copyFrom 4 = .ok (.iconst 0, 1) := by decide +kernel
theorem dX8_copyFrom_5 : decode cX8_copyFrom 5 = .ok (.aload_n 0, 1) := by decide +kernel
theorem dX8_copyFrom_6 : decode cX8_copyFrom 6 = .ok (.getfield 9, 3) := by decide +kernel
theorem dX8_copyFrom_9 : decode cX8_copyFrom 9 = .ok (.iconst 0, 1) := by decide +kernel
theorem dX8_copyFrom_10 : decode cX8_copyFrom 10 = .ok (.bipush 120, 2) := by decide +kernel
theorem dX8_copyFrom_12 : decode cX8_copyFrom 12 = .ok (.invokestatic 18, 3) := by decide +kernel
theorem dX8_copyFrom_15 : decode cX8_copyFrom 15 = .ok (.aload_n 1, 1) := by decide +kernel
theorem dX8_copyFrom_16 : decode cX8_copyFrom 16 = .ok (.getfield 15, 3) := by decide +kernel
theorem dX8_copyFrom_19 : decode cX8_copyFrom 19 = .ok (.iconst 0, 1) := by decide +kernel
theorem dX8_copyFrom_20 : decode cX8_copyFrom 20 = .ok (.aload_n 0, 1) := by decide +kernel
theorem dX8_copyFrom_21 : decode cX8_copyFrom 21 = .ok (.getfield 15, 3) := by decide +kernel
theorem dX8_copyFrom_24 : decode cX8_copyFrom 24 = .ok (.iconst 0, 1) := by decide +kernel
theorem dX8_copyFrom_25 : decode cX8_copyFrom 25 = .ok (.bipush 6, 2) := by decide +kernel
theorem dX8_copyFrom_27 : decode cX8_copyFrom 27 = .ok (.invokestatic 18, 3) := by decide +kernel
theorem dX8_copyFrom_30 : decode cX8_copyFrom 30 = .ok (.return_, 1) := by decide +kernel
theorem dX8_moveIn_0 : decode cX8_moveIn 0 = .ok (.aload_n 0, 1) := by decide +kernel
theorem dX8_moveIn_1 : decode cX8_moveIn 1 = .ok (.getfield 9, 3) := by decide +kernel
theorem dX8_moveIn_4 : decode cX8_moveIn 4 = .ok (.iload_n 1, 1) := by decide +kernel
theorem dX8_moveIn_5 : decode cX8_moveIn 5 = .ok (.bipush 20, 2) := by decide +kernel
theorem dX8_moveIn_7 : decode cX8_moveIn 7 = .ok (.imul, 1) := by decide +kernel
theorem dX8_moveIn_8 : decode cX8_moveIn 8 = .ok (.iload_n 2, 1) := by decide +kernel
theorem dX8_moveIn_9 : decode cX8_moveIn 9 = .ok (.iadd, 1) := by decide +kernel
theorem dX8_moveIn_10 : decode cX8_moveIn 10 = .ok (.iaload, 1) := by decide +kernel
theorem dX8_moveIn_11 : decode cX8_moveIn 11 = .ok (.ireturn, 1) := by decide +kernel
theorem dX8_setMove_0 : decode cX8_setMove 0 = .ok (.aload_n 0, 1) := by decide +kernel
theorem dX8_setMove_1 : decode cX8_setMove 1 = .ok (.getfield 9, 3) := by decide +kernel
theorem dX8_setMove_4 : decode cX8_setMove 4 = .ok (.iload_n 1, 1) := by decide +kernel
theorem dX8_setMove_5 : decode cX8_setMove 5 = .ok (.bipush 20, 2) := by decide +kernel
theorem dX8_setMove_7 : decode cX8_setMove 7 = .ok (.imul, 1) := by decide +kernel
theorem dX8_setMove_8 : decode cX8_setMove 8 = .ok (.iload_n 2, 1) := by decide +kernel
theorem dX8_setMove_9 : decode cX8_setMove 9 = .ok (.iadd, 1) := by decide +kernel
theorem dX8_setMove_10 : decode cX8_setMove 10 = .ok (.iload_n 3, 1) := by decide +kernel
theorem dX8_setMove_11 : decode cX8_setMove 11 = .ok (.iastore, 1) := by decide +kernel
theorem dX8_setMove_12 : decode cX8_setMove 12 = .ok (.return_, 1) := by decide +kernel
theorem dX8_extend_0 : decode cX8_extend 0 = .ok (.iload_n 1, 1) := by decide +kernel
theorem dX8_extend_1 : decode cX8_extend 1 = .ok (.invokestatic 24, 3) := by decide +kernel
theorem dX8_extend_4 : decode cX8_extend 4 = .ok (.ifCond .ne 5, 3) := by decide +kernel
theorem dX8_extend_7 : decode cX8_extend 7 = .ok (.iconst (-1), 1) := by decide +kernel
theorem dX8_extend_8 : decode cX8_extend 8 = .ok (.ireturn, 1) := by decide +kernel
theorem dX8_extend_9 : decode cX8_extend 9 = .ok (.iload_n 2, 1) := by decide +kernel
theorem dX8_extend_10 : decode cX8_extend 10 = .ok (.invokestatic 28, 3) := by decide +kernel
theorem dX8_extend_13 : decode cX8_extend 13 = .ok (.istore_n 3, 1) := by decide +kernel
theorem dX8_extend_14 : decode cX8_extend 14 = .ok (.iload_n 3, 1) := by decide +kernel
theorem dX8_extend_15 : decode cX8_extend 15 = .ok (.iconst (-1), 1) := by decide +kernel
theorem dX8_extend_16 : decode cX8_extend 16 = .ok (.if_icmp .ne 6, 3) := by decide +kernel
theorem dX8_extend_19 : decode cX8_extend 19 = .ok (.bipush (-4), 2) := by decide +kernel
theorem dX8_extend_21 : decode cX8_extend 21 = .ok (.ireturn, 1) := by decide +kernel
theorem dX8_extend_22 : decode cX8_extend 22 = .ok (.aload_n 0, 1) := by decide +kernel
theorem dX8_extend_23 : decode cX8_extend 23 = .ok (.getfield 15, 3) := by decide +kernel
theorem dX8_extend_26 : decode cX8_extend 26 = .ok (.iload_n 1, 1) := by decide +kernel
theorem dX8_extend_27 : decode cX8_extend 27 = .ok (.iaload, 1) := by decide +kernel
theorem dX8_extend_28 : decode cX8_extend 28 = .ok (.bipush 20, 2) := by decide +kernel
theorem dX8_extend_30 : decode cX8_extend 30 = .ok (.if_icmp .lt 6, 3) := by decide +kernel
theorem dX8_extend_33 : decode cX8_extend 33 = .ok (.bipush (-3), 2) := by decide +kernel
theorem dX8_extend_35 : decode cX8_extend 35 = .ok (.ireturn, 1) := by decide +kernel
theorem dX8_extend_36 : decode cX8_extend 36 = .ok (.aload_n 0, 1) := by decide +kernel
theorem dX8_extend_37 : decode cX8_extend 37 = .ok (.iload_n 1, 1) := by decide +kernel
theorem dX8_extend_38 : decode cX8_extend 38 = .ok (.aload_n 0, 1) := by decide +kernel
theorem dX8_extend_39 : decode cX8_extend 39 = .ok (.getfield 15, 3) := by decide +kernel
theorem dX8_extend_42 : decode cX8_extend 42 = .ok (.iload_n 1, 1) := by decide +kernel
theorem dX8_extend_43 : decode cX8_extend 43 = .ok (.iaload, 1) := by decide +kernel
theorem dX8_extend_44 : decode cX8_extend 44 = .ok (.iload_n 3, 1) := by decide +kernel
theorem dX8_extend_45 : decode cX8_extend 45 = .ok (.invokevirtual 32, 3) := by decide +kernel
theorem dX8_extend_48 : decode cX8_extend 48 = .ok (.aload_n 0, 1) := by decide +kernel
theorem dX8_extend_49 : decode cX8_extend 49 = .ok (.getfield 15, 3) := by decide +kernel
theorem dX8_extend_52 : decode cX8_extend 52 = .ok (.iload_n 1, 1) := by decide +kernel
theorem dX8_extend_53 : decode cX8_extend 53 = .ok (.dup2, 1) := by decide +kernel
theorem dX8_extend_54 : decode cX8_extend 54 = .ok (.iaload, 1) := by decide +kernel
theorem dX8_extend_55 : decode cX8_extend 55 = .ok (.iconst 1, 1) := by decide +kernel
theorem dX8_extend_56 : decode cX8_extend 56 = .ok (.iadd, 1) := by decide +kernel
theorem dX8_extend_57 : decode cX8_extend 57 = .ok (.iastore, 1) := by decide +kernel
theorem dX8_extend_58 : decode cX8_extend 58 = .ok (.aload_n 0, 1) := by decide +kernel
theorem dX8_extend_59 : decode cX8_extend 59 = .ok (.getfield 15, 3) := by decide +kernel
theorem dX8_extend_62 : decode cX8_extend 62 = .ok (.iload_n 1, 1) := by decide +kernel
theorem dX8_extend_63 : decode cX8_extend 63 = .ok (.iaload, 1) := by decide +kernel
theorem dX8_extend_64 : decode cX8_extend 64 = .ok (.ireturn, 1) := by decide +kernel
theorem dX8_empty_0 : decode cX8_empty 0 = .ok (.iload_n 1, 1) := by decide +kernel
theorem dX8_empty_1 : decode cX8_empty 1 = .ok (.invokestatic 24, 3) := by decide +kernel
theorem dX8_empty_4 : decode cX8_empty 4 = .ok (.ifCond .ne 5, 3) := by decide +kernel
theorem dX8_empty_7 : decode cX8_empty 7 = .ok (.iconst (-1), 1) := by decide +kernel
theorem dX8_empty_8 : decode cX8_empty 8 = .ok (.ireturn, 1) := by decide +kernel
theorem dX8_empty_9 : decode cX8_empty 9 = .ok (.aload_n 0, 1) := by decide +kernel
theorem dX8_empty_10 : decode cX8_empty 10 = .ok (.getfield 15, 3) := by decide +kernel
theorem dX8_empty_13 : decode cX8_empty 13 = .ok (.iload_n 1, 1) := by decide +kernel
theorem dX8_empty_14 : decode cX8_empty 14 = .ok (.iaload, 1) := by decide +kernel
theorem dX8_empty_15 : decode cX8_empty 15 = .ok (.istore_n 2, 1) := by decide +kernel
theorem dX8_empty_16 : decode cX8_empty 16 = .ok (.aload_n 0, 1) := by decide +kernel
theorem dX8_empty_17 : decode cX8_empty 17 = .ok (.getfield 15, 3) := by decide +kernel
theorem dX8_empty_20 : decode cX8_empty 20 = .ok (.iload_n 1, 1) := by decide +kernel
theorem dX8_empty_21 : decode cX8_empty 21 = .ok (.iconst 0, 1) := by decide +kernel
theorem dX8_empty_22 : decode cX8_empty 22 = .ok (.iastore, 1) := by decide +kernel
theorem dX8_empty_23 : decode cX8_empty 23 = .ok (.iload_n 2, 1) := by decide +kernel
theorem dX8_empty_24 : decode cX8_empty 24 = .ok (.ireturn, 1) := by decide +kernel
theorem dX8_putMirrored_0 : decode cX8_putMirrored 0 = .ok (.iload_n 1, 1) := by decide +kernel
theorem dX8_putMirrored_1 : decode cX8_putMirrored 1 = .ok (.invokestatic 24, 3) := by decide +kernel
theorem dX8_putMirrored_4 : decode cX8_putMirrored 4 = .ok (.ifCond .eq 10, 3) := by decide +kernel
theorem dX8_putMirrored_7 : decode cX8_putMirrored 7 = .ok (.iload_n 2, 1) := by decide +kernel
theorem dX8_putMirrored_8 : decode cX8_putMirrored 8 = .ok (.invokestatic 24, 3) := by decide +kernel
theorem dX8_putMirrored_11 : decode cX8_putMirrored 11 = .ok (.ifCond .ne 5, 3) := by decide +kernel
theorem dX8_putMirrored_14 : decode cX8_putMirrored 14 = .ok (.iconst (-1), 1) := by decide +kernel
theorem dX8_putMirrored_15 : decode cX8_putMirrored 15 = .ok (.ireturn, 1) := by decide +kernel
theorem dX8_putMirrored_16 : decode cX8_putMirrored 16 = .ok (.aload_n 0, 1) := by decide +kernel
theorem dX8_putMirrored_17 : decode cX8_putMirrored 17 = .ok (.getfield 15, 3) := by decide +kernel
theorem dX8_putMirrored_20 : decode cX8_putMirrored 20 = .ok (.iload_n 1, 1) := by decide +kernel
theorem dX8_putMirrored_21 : decode cX8_putMirrored 21 = .ok (.iaload, 1) := by decide +kernel
theorem dX8_putMirrored_22 : decode cX8_putMirrored 22 = .ok (.istore_n 3, 1) := by decide +kernel
theorem dX8_putMirrored_23 : decode cX8_putMirrored 23 = .ok (.iconst 0, 1) := by decide +kernel
theorem dX8_putMirrored_24 : decode cX8_putMirrored 24 = .ok (.istore 4, 2) := by decide +kernel
theorem dX8_putMirrored_26 : decode cX8_putMirrored 26 = .ok (.iload 4, 2) := by decide +kernel
theorem dX8_putMirrored_28 : decode cX8_putMirrored 28 = .ok (.iload_n 3, 1) := by decide +kernel
theorem dX8_putMirrored_29 : decode cX8_putMirrored 29 = .ok (.if_icmp .ge 26, 3) := by decide +kernel
theorem dX8_putMirrored_32 : decode cX8_putMirrored 32 = .ok (.aload_n 0, 1) := by decide +kernel
theorem dX8_putMirrored_33 : decode cX8_putMirrored 33 = .ok (.iload_n 2, 1) := by decide +kernel
theorem dX8_putMirrored_34 : decode cX8_putMirrored 34 = .ok (.iload 4, 2) := by decide +kernel
theorem dX8_putMirrored_36 : decode cX8_putMirrored 36 = .ok (.aload_n 0, 1) := by decide +kernel
theorem dX8_putMirrored_37 : decode cX8_putMirrored 37 = .ok (.iload_n 1, 1) := by decide +kernel
theorem dX8_putMirrored_38 : decode cX8_putMirrored 38 = .ok (.iload 4, 2) := by decide +kernel
theorem dX8_putMirrored_40 : decode cX8_putMirrored 40 = .ok (.invokevirtual 36, 3) := by decide +kernel
theorem dX8_putMirrored_43 : decode cX8_putMirrored 43 = .ok (.invokestatic 40, 3) := by decide +kernel
theorem dX8_putMirrored_46 : decode cX8_putMirrored 46 = .ok (.invokevirtual 32, 3) := by decide +kernel
theorem dX8_putMirrored_49 : decode cX8_putMirrored 49 = .ok (.iinc 4 1, 3) := by decide +kernel
theorem dX8_putMirrored_52 : decode cX8_putMirrored 52 = .ok (.goto (-26), 3) := by decide +kernel
theorem dX8_putMirrored_55 : decode cX8_putMirrored 55 = .ok (.aload_n 0, 1) := by decide +kernel
theorem dX8_putMirrored_56 : decode cX8_putMirrored 56 = .ok (.getfield 15, 3) := by decide +kernel
theorem dX8_putMirrored_59 : decode cX8_putMirrored 59 = .ok (.iload_n 2, 1) := by decide +kernel
theorem dX8_putMirrored_60 : decode cX8_putMirrored 60 = .ok (.iload_n 3, 1) := by decide +kernel
theorem dX8_putMirrored_61 : decode cX8_putMirrored 61 = .ok (.iastore, 1) := by decide +kernel
theorem dX8_putMirrored_62 : decode cX8_putMirrored 62 = .ok (.iload_n 3, 1) := by decide +kernel
theorem dX8_putMirrored_63 : decode cX8_putMirrored 63 = .ok (.ireturn, 1) := by decide +kernel
theorem dX8_putWayBack_0 : decode cX8_putWayBack 0 = .ok (.iload_n 1, 1) := by decide +kernel
theorem dX8_putWayBack_1 : decode cX8_putWayBack 1 = .ok (.invokestatic 24, 3) := by decide +kernel
theorem dX8_putWayBack_4 : decode cX8_putWayBack 4 = .ok (.ifCond .eq 10, 3) := by decide +kernel
theorem dX8_putWayBack_7 : decode cX8_putWayBack 7 = .ok (.iload_n 2, 1) := by decide +kernel
theorem dX8_putWayBack_8 : decode cX8_putWayBack 8 = .ok (.invokestatic 24, 3) := by decide +kernel
theorem dX8_putWayBack_11 : decode cX8_putWayBack 11 = .ok (.ifCond .ne 5, 3) := by decide +kernel
theorem dX8_putWayBack_14 : decode cX8_putWayBack 14 = .ok (.iconst (-1), 1) := by decide +kernel
theorem dX8_putWayBack_15 : decode cX8_putWayBack 15 = .ok (.ireturn, 1) := by decide +kernel
theorem dX8_putWayBack_16 : decode cX8_putWayBack 16 = .ok (.aload_n 0, 1) := by decide +kernel
theorem dX8_putWayBack_17 : decode cX8_putWayBack 17 = .ok (.getfield 15, 3) := by decide +kernel
theorem dX8_putWayBack_20 : decode cX8_putWayBack 20 = .ok (.iload_n 1, 1) := by decide +kernel
theorem dX8_putWayBack_21 : decode cX8_putWayBack 21 = .ok (.iaload, 1) := by decide +kernel
theorem dX8_putWayBack_22 : decode cX8_putWayBack 22 = .ok (.istore_n 3, 1) := by decide +kernel
theorem dX8_putWayBack_23 : decode cX8_putWayBack 23 = .ok (.iconst 0, 1) := by decide +kernel
theorem dX8_putWayBack_24 : decode cX8_putWayBack 24 = .ok (.istore 4, 2) := by decide +kernel
theorem dX8_putWayBack_26 : decode cX8_putWayBack 26 = .ok (.iload 4, 2) := by decide +kernel
theorem dX8_putWayBack_28 : decode cX8_putWayBack 28 = .ok (.iload_n 3, 1) := by decide +kernel
theorem dX8_putWayBack_29 : decode cX8_putWayBack 29 = .ok (.iload 4, 2) := by decide +kernel
theorem dX8_putWayBack_31 : decode cX8_putWayBack 31 = .ok (.isub, 1) := by decide +kernel
theorem dX8_putWayBack_32 : decode cX8_putWayBack 32 = .ok (.if_icmp .ge 59, 3) := by decide +kernel
theorem dX8_putWayBack_35 : decode cX8_putWayBack 35 = .ok (.iload_n 3, 1) := by decide +kernel
theorem dX8_putWayBack_36 : decode cX8_putWayBack 36 = .ok (.iconst 1, 1) := by decide +kernel
theorem dX8_putWayBack_37 : decode cX8_putWayBack 37 = .ok (.isub, 1) := by decide +kernel
theorem dX8_putWayBack_38 : decode cX8_putWayBack 38 = .ok (.iload 4, 2) := by decide +kernel
theorem dX8_putWayBack_40 : decode cX8_putWayBack 40 = .ok (.isub, 1) := by decide +kernel
theorem dX8_putWayBack_41 : decode cX8_putWayBack 41 = .ok (.istore 5, 2) := by decide +kernel
theorem dX8_putWayBack_43 : decode cX8_putWayBack 43 = .ok (.aload_n 0, 1) := by decide +kernel
theorem dX8_putWayBack_44 : decode cX8_putWayBack 44 = .ok (.iload_n 1, 1) := by decide +kernel
theorem dX8_putWayBack_45 : decode cX8_putWayBack 45 = .ok (.iload 4, 2) := by decide +kernel
theorem dX8_putWayBack_47 : decode cX8_putWayBack 47 = .ok (.invokevirtual 36, 3) := by decide +kernel
theorem dX8_putWayBack_50 : decode cX8_putWayBack 50 = .ok (.istore 6, 2) := by decide +kernel
theorem dX8_putWayBack_52 : decode cX8_putWayBack 52 = .ok (.aload_n 0, 1) := by decide +kernel
theorem dX8_putWayBack_53 : decode cX8_putWayBack 53 = .ok (.iload_n 1, 1) := by decide +kernel
theorem dX8_putWayBack_54 : decode cX8_putWayBack 54 = .ok (.iload 5, 2) := by decide +kernel
theorem dX8_putWayBack_56 : decode cX8_putWayBack 56 = .ok (.invokevirtual 36, 3) := by decide +kernel
theorem dX8_putWayBack_59 : decode cX8_putWayBack 59 = .ok (.istore 7, 2) := by decide +kernel
theorem dX8_putWayBack_61 : decode cX8_putWayBack 61 = .ok (.aload_n 0, 1) := by decide +kernel
theorem dX8_putWayBack_62 : decode cX8_putWayBack 62 = .ok (.iload_n 2, 1) := by decide +kernel
theorem dX8_putWayBack_63 : decode cX8_putWayBack 63 = .ok (.iload 4, 2) := by decide +kernel
theorem dX8_putWayBack_65 : decode cX8_putWayBack 65 = .ok (.iload 7, 2) := by decide +kernel
theorem dX8_putWayBack_67 : decode cX8_putWayBack 67 = .ok (.invokestatic 44, 3) := by decide +kernel
theorem dX8_putWayBack_70 : decode cX8_putWayBack 70 = .ok (.invokevirtual 32, 3) := by decide +kernel
theorem dX8_putWayBack_73 : decode cX8_putWayBack 73 = .ok (.aload_n 0, 1) := by decide +kernel
theorem dX8_putWayBack_74 : decode cX8_putWayBack 74 = .ok (.iload_n 2, 1) := by decide +kernel
theorem dX8_putWayBack_75 : decode cX8_putWayBack 75 = .ok (.iload 5, 2) := by decide +kernel
theorem dX8_putWayBack_77 : decode cX8_putWayBack 77 = .ok (.iload 6, 2) := by decide +kernel
theorem dX8_putWayBack_79 : decode cX8_putWayBack 79 = .ok (.invokestatic 44, 3) := by decide +kernel
theorem dX8_putWayBack_82 : decode cX8_putWayBack 82 = .ok (.invokevirtual 32, 3) := by decide +kernel
theorem dX8_putWayBack_85 : decode cX8_putWayBack 85 = .ok (.iinc 4 1, 3) := by decide +kernel
theorem dX8_putWayBack_88 : decode cX8_putWayBack 88 = .ok (.goto (-62), 3) := by decide +kernel
theorem dX8_putWayBack_91 : decode cX8_putWayBack 91 = .ok (.aload_n 0, 1) := by decide +kernel
theorem dX8_putWayBack_92 : decode cX8_putWayBack 92 = .ok (.getfield 15, 3) := by decide +kernel
theorem dX8_putWayBack_95 : decode cX8_putWayBack 95 = .ok (.iload_n 2, 1) := by decide +kernel
theorem dX8_putWayBack_96 : decode cX8_putWayBack 96 = .ok (.iload_n 3, 1) := by decide +kernel
theorem dX8_putWayBack_97 : decode cX8_putWayBack 97 = .ok (.iastore, 1) := by decide +kernel
theorem dX8_putWayBack_98 : decode cX8_putWayBack 98 = .ok (.iload_n 3, 1) := by decide +kernel
theorem dX8_putWayBack_99 : decode cX8_putWayBack 99 = .ok (.ireturn, 1) := by decide +kernel
theorem dX8_shorten_0 : decode cX8_shorten 0 = .ok (.iload_n 1, 1) := by decide +kernel
theorem dX8_shorten_1 : decode cX8_shorten 1 = .ok (.invokestatic 24, 3) := by decide +kernel
theorem dX8_shorten_4 : decode cX8_shorten 4 = .ok (.ifCond .ne 5, 3) := by decide +kernel
theorem dX8_shorten_7 : decode cX8_shorten 7 = .ok (.iconst (-1), 1) := by decide +kernel
theorem dX8_shorten_8 : decode cX8_shorten 8 = .ok (.ireturn, 1) := by decide +kernel
theorem dX8_shorten_9 : decode cX8_shorten 9 = .ok (.aload_n 0, 1) := by decide +kernel
theorem dX8_shorten_10 : decode cX8_shorten 10 = .ok (.getfield 15, 3) := by decide +kernel
theorem dX8_shorten_13 : decode cX8_shorten 13 = .ok (.iload_n 1, 1) := by decide +kernel
theorem dX8_shorten_14 : decode cX8_shorten 14 = .ok (.aload_n 0, 1) := by decide +kernel
theorem dX8_shorten_15 : decode cX8_shorten 15 = .ok (.iload_n 1, 1) := by decide +kernel
theorem dX8_shorten_16 : decode cX8_shorten 16 = .ok (.aload_n 0, 1) := by decide +kernel
theorem dX8_shorten_17 : decode cX8_shorten 17 = .ok (.getfield 9, 3) := by decide +kernel
theorem dX8_shorten_20 : decode cX8_shorten 20 = .ok (.iload_n 1, 1) := by decide +kernel
theorem dX8_shorten_21 : decode cX8_shorten 21 = .ok (.bipush 20, 2) := by decide +kernel
theorem dX8_shorten_23 : decode cX8_shorten 23 = .ok (.imul, 1) := by decide +kernel
theorem dX8_shorten_24 : decode cX8_shorten 24 = .ok (.invokevirtual 47, 3) := by decide +kernel
theorem dX8_shorten_27 : decode cX8_shorten 27 = .ok (.iastore, 1) := by decide +kernel
theorem dX8_shorten_28 : decode cX8_shorten 28 = .ok (.aload_n 0, 1) := by decide +kernel
theorem dX8_shorten_29 : decode cX8_shorten 29 = .ok (.getfield 15, 3) := by decide +kernel
theorem dX8_shorten_32 : decode cX8_shorten 32 = .ok (.iload_n 1, 1) := by decide +kernel
theorem dX8_shorten_33 : decode cX8_shorten 33 = .ok (.iaload, 1) := by decide +kernel
theorem dX8_shorten_34 : decode cX8_shorten 34 = .ok (.ireturn, 1) := by decide +kernel
theorem dX8_lengthByStack_0 : decode cX8_lengthByStack 0 = .ok (.aload_n 0, 1) := by decide +kernel
theorem dX8_lengthByStack_1 : decode cX8_lengthByStack 1 = .ok (.iload_n 1, 1) := by decide +kernel
theorem dX8_lengthByStack_2 : decode cX8_lengthByStack 2 = .ok (.aload_n 2, 1) := by decide +kernel
theorem dX8_lengthByStack_3 : decode cX8_lengthByStack 3 = .ok (.iconst 0, 1) := by decide +kernel
theorem dX8_lengthByStack_4 : decode cX8_lengthByStack 4 = .ok (.invokevirtual 47, 3) := by decide +kernel
theorem dX8_lengthByStack_7 : decode cX8_lengthByStack 7 = .ok (.ireturn, 1) := by decide +kernel
theorem dX8_stackMoves_0 : decode cX8_stackMoves 0 = .ok (.iconst 0, 1) := by decide +kernel
theorem dX8_stackMoves_1 : decode cX8_stackMoves 1 = .ok (.istore 4, 2) := by decide +kernel
theorem dX8_stackMoves_3 : decode cX8_stackMoves 3 = .ok (.iconst 0, 1) := by decide +kernel
theorem dX8_stackMoves_4 : decode cX8_stackMoves 4 = .ok (.istore 5, 2) := by decide +kernel
theorem dX8_stackMoves_6 : decode cX8_stackMoves 6 = .ok (.iload 5, 2) := by decide +kernel
theorem dX8_stackMoves_8 : decode cX8_stackMoves 8 = .ok (.aload_n 0, 1) := by decide +kernel
theorem dX8_stackMoves_9 : decode cX8_stackMoves 9 = .ok (.getfield 15, 3) := by decide +kernel
theorem dX8_stackMoves_12 : decode cX8_stackMoves 12 = .ok (.iload_n 1, 1) := by decide +kernel
theorem dX8_stackMoves_13 : decode cX8_stackMoves 13 = .ok (.iaload, 1) := by decide +kernel
theorem dX8_stackMoves_14 : decode cX8_stackMoves 14 = .ok (.if_icmp .ge 56, 3) := by decide +kernel
theorem dX8_stackMoves_17 : decode cX8_stackMoves 17 = .ok (.aload_n 0, 1) := by decide +kernel
theorem dX8_stackMoves_18 : decode cX8_stackMoves 18 = .ok (.iload_n 1, 1) := by decide +kernel
theorem dX8_stackMoves_19 : decode cX8_stackMoves 19 = .ok (.iload 5, 2) := by decide +kernel
theorem dX8_stackMoves_21 : decode cX8_stackMoves 21 = .ok (.invokevirtual 36, 3) := by decide +kernel
theorem dX8_stackMoves_24 : decode cX8_stackMoves 24 = .ok (.istore 6, 2) := by decide +kernel
theorem dX8_stackMoves_26 : decode cX8_stackMoves 26 = .ok (.iload 4, 2) := by decide +kernel
theorem dX8_stackMoves_28 : decode cX8_stackMoves 28 = .ok (.ifCond .le 25, 3) := by decide +kernel
theorem dX8_stackMoves_31 : decode cX8_stackMoves 31 = .ok (.aload_n 2, 1) := by decide +kernel
theorem dX8_stackMoves_32 : decode cX8_stackMoves 32 = .ok (.iload_n 3, 1) := by decide +kernel
theorem dX8_stackMoves_33 : decode cX8_stackMoves 33 = .ok (.iload 4, 2) := by decide +kernel
theorem dX8_stackMoves_35 : decode cX8_stackMoves 35 = .ok (.iadd, 1) := by decide +kernel
theorem dX8_stackMoves_36 : decode cX8_stackMoves 36 = .ok (.iconst 1, 1) := by decide +kernel
theorem dX8_stackMoves_37 : decode cX8_stackMoves 37 = .ok (.isub, 1) := by decide +kernel
theorem dX8_stackMoves_38 : decode cX8_stackMoves 38 = .ok (.iaload, 1) := by decide +kernel
theorem dX8_stackMoves_39 : decode cX8_stackMoves 39 = .ok (.iload 6, 2) := by decide +kernel
theorem dX8_stackMoves_41 : decode cX8_stackMoves 41 = .ok (.invokestatic 44, 3) := by decide +kernel
theorem dX8_stackMoves_44 : decode cX8_stackMoves 44 = .ok (.if_icmp .ne 9, 3) := by decide +kernel
theorem dX8_stackMoves_47 : decode cX8_stackMoves 47 = .ok (.iinc 4 (-1), 3) := by decide +kernel
theorem dX8_stackMoves_50 : decode cX8_stackMoves 50 = .ok (.goto 14, 3) := by decide +kernel
theorem dX8_stackMoves_53 : decode cX8_stackMoves 53 = .ok (.aload_n 2, 1) := by decide +kernel
theorem dX8_stackMoves_54 : decode cX8_stackMoves 54 = .ok (.iload_n 3, 1) := by decide +kernel
theorem dX8_stackMoves_55 : decode cX8_stackMoves 55 = .ok (.iload 4, 2) := by decide +kernel
theorem dX8_stackMoves_57 : decode cX8_stackMoves 57 = .ok (.iadd, 1) := by decide +kernel
theorem dX8_stackMoves_58 : decode cX8_stackMoves 58 = .ok (.iload 6, 2) := by decide +kernel
theorem dX8_stackMoves_60 : decode cX8_stackMoves 60 = .ok (.iastore, 1) := by decide +kernel
theorem dX8_stackMoves_61 : decode cX8_stackMoves 61 = .ok (.iinc 4 1, 3) := by decide +kernel
theorem dX8_stackMoves_64 : decode cX8_stackMoves 64 = .ok (.iinc 5 1, 3) := by decide +kernel
theorem dX8_stackMoves_67 : decode cX8_stackMoves 67 = .ok (.goto (-61), 3) := by decide +kernel
theorem dX8_stackMoves_70 : decode cX8_stackMoves 70 = .ok (.iload 4, 2) := by decide +kernel
theorem dX8_stackMoves_72 : decode cX8_stackMoves 72 = .ok (.ireturn, 1) := by decide +kernel
theorem dX8_lengthByPairs_0 : decode cX8_lengthByPairs 0 = .ok (.aload_n 0, 1) := by decide +kernel
theorem dX8_lengthByPairs_1 : decode cX8_lengthByPairs 1 = .ok (.getfield 15, 3) := by decide +kernel
theorem dX8_lengthByPairs_4 : decode cX8_lengthByPairs 4 = .ok (.iload_n 1, 1) := by decide +kernel
theorem dX8_lengthByPairs_5 : decode cX8_lengthByPairs 5 = .ok (.iaload, 1) := by decide +kernel
theorem dX8_lengthByPairs_6 : decode cX8_lengthByPairs 6 = .ok (.istore_n 3, 1) := by decide +kernel
theorem dX8_lengthByPairs_7 : decode cX8_lengthByPairs 7 = .ok (.aload_n 0, 1) := by decide +kernel
theorem dX8_lengthByPairs_8 : decode cX8_lengthByPairs 8 = .ok (.getfield 9, 3) := by decide +kernel
theorem dX8_lengthByPairs_11 : decode cX8_lengthByPairs 11 = .ok (.iload_n 1, 1) := by decide +kernel
theorem dX8_lengthByPairs_12 : decode cX8_lengthByPairs 12 = .ok (.bipush 20, 2) := by decide +kernel
theorem dX8_lengthByPairs_14 : decode cX8_lengthByPairs 14 = .ok (.imul, 1) := by decide +kernel
theorem dX8_lengthByPairs_15 : decode cX8_lengthByPairs 15 = .ok (.aload_n 2, 1) := by decide +kernel
theorem dX8_lengthByPairs_16 : decode cX8_lengthByPairs 16 = .ok (.iconst 0, 1) := by decide +kernel
theorem dX8_lengthByPairs_17 : decode cX8_lengthByPairs 17 = .ok (.iload_n 3, 1) := by decide +kernel
theorem dX8_lengthByPairs_18 : decode cX8_lengthByPairs 18 = .ok (.invokestatic 18, 3) := by decide +kernel
theorem dX8_lengthByPairs_21 : decode cX8_lengthByPairs 21 = .ok (.aload_n 2, 1) := by decide +kernel
theorem dX8_lengthByPairs_22 : decode cX8_lengthByPairs 22 = .ok (.iload_n 3, 1) := by decide +kernel
theorem dX8_lengthByPairs_23 : decode cX8_lengthByPairs 23 = .ok (.invokestatic 51, 3) := by decide +kernel
theorem dX8_lengthByPairs_26 : decode cX8_lengthByPairs 26 = .ok (.istore 4, 2) := by decide +kernel
theorem dX8_lengthByPairs_28 : decode cX8_lengthByPairs 28 = .ok (.iconst 0, 1) := by decide +kernel
theorem dX8_lengthByPairs_29 : decode cX8_lengthByPairs 29 = .ok (.istore 5, 2) := by decide +kernel
theorem dX8_lengthByPairs_31 : decode cX8_lengthByPairs 31 = .ok (.iload 5, 2) := by decide +kernel
theorem dX8_lengthByPairs_33 : decode cX8_lengthByPairs 33 = .ok (.bipush 20, 2) := by decide +kernel
theorem dX8_lengthByPairs_35 : decode cX8_lengthByPairs 35 = .ok (.if_icmp .ge 53, 3) := by decide +kernel
theorem dX8_lengthByPairs_38 : decode cX8_lengthByPairs 38 = .ok (.iload 4, 2) := by decide +kernel
theorem dX8_lengthByPairs_40 : decode cX8_lengthByPairs 40 = .ok (.iconst (-1), 1) := by decide +kernel
theorem dX8_lengthByPairs_41 : decode cX8_lengthByPairs 41 = .ok (.if_icmp .eq 47, 3) := by decide +kernel
theorem dX8_lengthByPairs_44 : decode cX8_lengthByPairs 44 = .ok (.iload 4, 2) := by decide +kernel
theorem dX8_lengthByPairs_46 : decode cX8_lengthByPairs 46 = .ok (.iconst 2, 1) := by decide +kernel
theorem dX8_lengthByPairs_47 : decode cX8_lengthByPairs 47 = .ok (.iadd, 1) := by decide +kernel
theorem dX8_lengthByPairs_48 : decode cX8_lengthByPairs 48 = .ok (.istore 6, 2) := by decide +kernel
theorem dX8_lengthByPairs_50 : decode cX8_lengthByPairs 50 = .ok (.iload 6, 2) := by decide +kernel
theorem dX8_lengthByPairs_52 : decode cX8_lengthByPairs 52 = .ok (.iload_n 3, 1) := by decide +kernel
theorem dX8_lengthByPairs_53 : decode cX8_lengthByPairs 53 = .ok (.if_icmp .ge 19, 3) := by decide +kernel
theorem dX8_lengthByPairs_56 : decode cX8_lengthByPairs 56 = .ok (.aload_n 2, 1) := by decide +kernel
theorem dX8_lengthByPairs_57 : decode cX8_lengthByPairs 57 = .ok (.iload 6, 2) := by decide +kernel
theorem dX8_lengthByPairs_59 : decode cX8_lengthByPairs 59 = .ok (.iconst 2, 1) := by decide +kernel
theorem dX8_lengthByPairs_60 : decode cX8_lengthByPairs 60 = .ok (.isub, 1) := by decide +kernel
theorem dX8_lengthByPairs_61 : decode cX8_lengthByPairs 61 = .ok (.aload_n 2, 1) := by decide +kernel
theorem dX8_lengthByPairs_62 : decode cX8_lengthByPairs 62 = .ok (.iload 6, 2) := by decide +kernel
theorem dX8_lengthByPairs_64 : decode cX8_lengthByPairs 64 = .ok (.iaload, 1) := by decide +kernel
theorem dX8_lengthByPairs_65 : decode cX8_lengthByPairs 65 = .ok (.iastore, 1) := by decide +kernel
theorem dX8_lengthByPairs_66 : decode cX8_lengthByPairs 66 = .ok (.iinc 6 1, 3) := by decide +kernel
theorem dX8_lengthByPairs_69 : decode cX8_lengthByPairs 69 = .ok (.goto (-19), 3) := by decide +kernel
theorem dX8_lengthByPairs_72 : decode cX8_lengthByPairs 72 = .ok (.iinc 3 (-2), 3) := by decide +kernel
theorem dX8_lengthByPairs_75 : decode cX8_lengthByPairs 75 = .ok (.aload_n 2, 1) := by decide +kernel
theorem dX8_lengthByPairs_76 : decode cX8_lengthByPairs 76 = .ok (.iload_n 3, 1) := by decide +kernel
theorem dX8_lengthByPairs_77 : decode cX8_lengthByPairs 77 = .ok (.invokestatic 51, 3) := by decide +kernel
theorem dX8_lengthByPairs_80 : decode cX8_lengthByPairs 80 = .ok (.istore 4, 2) := by decide +kernel
theorem dX8_lengthByPairs_82 : decode cX8_lengthByPairs 82 = .ok (.iinc 5 1, 3) := by decide +kernel
theorem dX8_lengthByPairs_85 : decode cX8_lengthByPairs 85 = .ok (.goto (-54), 3) := by decide +kernel
theorem dX8_lengthByPairs_88 : decode cX8_lengthByPairs 88 = .ok (.iload_n 3, 1) := by decide +kernel
theorem dX8_lengthByPairs_89 : decode cX8_lengthByPairs 89 = .ok (.ireturn, 1) := by decide +kernel
theorem dX8_firstPair_0 : decode cX8_firstPair 0 = .ok (.iconst 0, 1) := by decide +kernel
theorem dX8_firstPair_1 : decode cX8_firstPair 1 = .ok (.istore_n 2, 1) := by decide +kernel
theorem dX8_firstPair_2 : decode cX8_firstPair 2 = .ok (.iload_n 2, 1) := by decide +kernel
theorem dX8_firstPair_3 : decode cX8_firstPair 3 = .ok (.iconst 1, 1) := by decide +kernel
theorem dX8_firstPair_4 : decode cX8_firstPair 4 = .ok (.iadd, 1) := by decide +kernel
theorem dX8_firstPair_5 : decode cX8_firstPair 5 = .ok (.iload_n 1, 1) := by decide +kernel
theorem dX8_firstPair_6 : decode cX8_firstPair 6 = .ok (.if_icmp .ge 25, 3) := by decide +kernel
theorem dX8_firstPair_9 : decode cX8_firstPair 9 = .ok (.aload_n 0, 1) := by decide +kernel
theorem dX8_firstPair_10 : decode cX8_firstPair 10 = .ok (.iload_n 2, 1) := by decide +kernel
theorem dX8_firstPair_11 : decode cX8_firstPair 11 = .ok (.iaload, 1) := by decide +kernel
theorem dX8_firstPair_12 : decode cX8_firstPair 12 = .ok (.aload_n 0, 1) := by decide +kernel
theorem dX8_firstPair_13 : decode cX8_firstPair 13 = .ok (.iload_n 2, 1) := by decide +kernel
theorem dX8_firstPair_14 : decode cX8_firstPair 14 = .ok (.iconst 1, 1) := by decide +kernel
theorem dX8_firstPair_15 : decode cX8_firstPair 15 = .ok (.iadd, 1) := by decide +kernel
theorem dX8_firstPair_16 : decode cX8_firstPair 16 = .ok (.iaload, 1) := by decide +kernel
theorem dX8_firstPair_17 : decode cX8_firstPair 17 = .ok (.invokestatic 44, 3) := by decide +kernel
theorem dX8_firstPair_20 : decode cX8_firstPair 20 = .ok (.if_icmp .ne 5, 3) := by decide +kernel
theorem dX8_firstPair_23 : decode cX8_firstPair 23 = .ok (.iload_n 2, 1) := by decide +kernel
theorem dX8_firstPair_24 : decode cX8_firstPair 24 = .ok (.ireturn, 1) := by decide +kernel
theorem dX8_firstPair_25 : decode cX8_firstPair 25 = .ok (.iinc 2 1, 3) := by decide +kernel
theorem dX8_firstPair_28 : decode cX8_firstPair 28 = .ok (.goto (-26), 3) := by decide +kernel
theorem dX8_firstPair_31 : decode cX8_firstPair 31 = .ok (.iconst (-1), 1) := by decide +kernel
theorem dX8_firstPair_32 : decode cX8_firstPair 32 = .ok (.ireturn, 1) := by decide +kernel
theorem dX8_mirrorEachOther_0 : decode cX8_mirrorEachOther 0 = .ok (.aload_n 0, 1) := by decide +kernel
theorem dX8_mirrorEachOther_1 : decode cX8_mirrorEachOther 1 = .ok (.getfield 15, 3) := by decide +kernel
theorem dX8_mirrorEachOther_4 : decode cX8_mirrorEachOther 4 = .ok (.iload_n 1, 1) := by decide +kernel
theorem dX8_mirrorEachOther_5 : decode cX8_mirrorEachOther 5 = .ok (.iaload, 1) := by decide +kernel
theorem dX8_mirrorEachOther_6 : decode cX8_mirrorEachOther 6 = .ok (.aload_n 0, 1) := by decide +kernel
theorem dX8_mirrorEachOther_7 : decode cX8_mirrorEachOther 7 = .ok (.getfield 15, 3) := by decide +kernel
theorem dX8_mirrorEachOther_10 : decode cX8_mirrorEachOther 10 = .ok (.iload_n 2, 1) := by decide +kernel
theorem dX8_mirrorEachOther_11 : decode cX8_mirrorEachOther 11 = .ok (.iaload, 1) := by decide +kernel
theorem dX8_mirrorEachOther_12 : decode cX8_mirrorEachOther 12 = .ok (.if_icmp .eq 5, 3) := by decide +kernel
theorem dX8_mirrorEachOther_15 : decode cX8_mirrorEachOther 15 = .ok (.iconst 0, 1) := by decide +kernel
theorem dX8_mirrorEachOther_16 : decode cX8_mirrorEachOther 16 = .ok (.ireturn, 1) := by decide +kernel
theorem dX8_mirrorEachOther_17 : decode cX8_mirrorEachOther 17 = .ok (.iconst 0, 1) := by decide +kernel
theorem dX8_mirrorEachOther_18 : decode cX8_mirrorEachOther 18 = .ok (.istore_n 3, 1) := by decide +kernel
theorem dX8_mirrorEachOther_19 : decode cX8_mirrorEachOther 19 = .ok (.iload_n 3, 1) := by decide +kernel
theorem dX8_mirrorEachOther_20 : decode cX8_mirrorEachOther 20 = .ok (.aload_n 0, 1) := by decide +kernel
theorem dX8_mirrorEachOther_21 : decode cX8_mirrorEachOther 21 = .ok (.getfield 15, 3) := by decide +kernel
theorem dX8_mirrorEachOther_24 : decode cX8_mirrorEachOther 24 = .ok (.iload_n 1, 1) := by decide +kernel
theorem dX8_mirrorEachOther_25 : decode cX8_mirrorEachOther 25 = .ok (.iaload, 1) := by decide +kernel
theorem dX8_mirrorEachOther_26 : decode cX8_mirrorEachOther 26 = .ok (.if_icmp .ge 29, 3) := by decide +kernel
theorem dX8_mirrorEachOther_29 : decode cX8_mirrorEachOther 29 = .ok (.aload_n 0, 1) := by decide +kernel
theorem dX8_mirrorEachOther_30 : decode cX8_mirrorEachOther 30 = .ok (.iload_n 1, 1) := by decide +kernel
theorem dX8_mirrorEachOther_31 : decode cX8_mirrorEachOther 31 = .ok (.iload_n 3, 1) := by decide +kernel
theorem dX8_mirrorEachOther_32 : decode cX8_mirrorEachOther 32 = .ok (.invokevirtual 36, 3) := by decide +kernel
theorem dX8_mirrorEachOther_35 : decode cX8_mirrorEachOther 35 = .ok (.aload_n 0, 1) := by decide +kernel
theorem dX8_mirrorEachOther_36 : decode cX8_mirrorEachOther 36 = .ok (.iload_n 2, 1) := by decide +kernel
theorem dX8_mirrorEachOther_37 : decode cX8_mirrorEachOther 37 = .ok (.iload_n 3, 1) := by decide +kernel
theorem dX8_mirrorEachOther_38 : decode cX8_mirrorEachOther 38 = .ok (.invokevirtual 36, 3) := by decide +kernel
theorem dX8_mirrorEachOther_41 : decode cX8_mirrorEachOther 41 = .ok (.invokestatic 40, 3) := by decide +kernel
theorem dX8_mirrorEachOther_44 : decode cX8_mirrorEachOther 44 = .ok (.if_icmp .eq 5, 3) := by decide +kernel
theorem dX8_mirrorEachOther_47 : decode cX8_mirrorEachOther 47 = .ok (.iconst 0, 1) := by decide +kernel
theorem dX8_mirrorEachOther_48 : decode cX8_mirrorEachOther 48 = .ok (.ireturn, 1) := by decide +kernel
theorem dX8_mirrorEachOther_49 : decode cX8_mirrorEachOther 49 = .ok (.iinc 3 1, 3) := by decide +kernel
theorem dX8_mirrorEachOther_52 : decode cX8_mirrorEachOther 52 = .ok (.goto (-33), 3) := by decide +kernel
theorem dX8_mirrorEachOther_55 : decode cX8_mirrorEachOther 55 = .ok (.iconst 1, 1) := by decide +kernel
theorem dX8_mirrorEachOther_56 : decode cX8_mirrorEachOther 56 = .ok (.ireturn, 1) := by decide +kernel
theorem dX8_writeTo_0 : decode cX8_writeTo 0 = .ok (.iconst 0, 1) := by decide +kernel
theorem dX8_writeTo_1 : decode cX8_writeTo 1 = .ok (.istore_n 3, 1) := by decide +kernel
theorem dX8_writeTo_2 : decode cX8_writeTo 2 = .ok (.iconst 0, 1) := by decide +kernel
theorem dX8_writeTo_3 : decode cX8_writeTo 3 = .ok (.istore 4, 2) := by decide +kernel
theorem dX8_writeTo_5 : decode cX8_writeTo 5 = .ok (.iload 4, 2) := by decide +kernel
theorem dX8_writeTo_7 : decode cX8_writeTo 7 = .ok (.aload_n 0, 1) := by decide +kernel
theorem dX8_writeTo_8 : decode cX8_writeTo 8 = .ok (.getfield 15, 3) := by decide +kernel
theorem dX8_writeTo_11 : decode cX8_writeTo 11 = .ok (.iload_n 2, 1) := by decide +kernel
theorem dX8_writeTo_12 : decode cX8_writeTo 12 = .ok (.iaload, 1) := by decide +kernel
theorem dX8_writeTo_13 : decode cX8_writeTo 13 = .ok (.if_icmp .ge 65, 3) := by decide +kernel
theorem dX8_writeTo_16 : decode cX8_writeTo 16 = .ok (.aload_n 0, 1) := by decide +kernel
theorem dX8_writeTo_17 : decode cX8_writeTo 17 = .ok (.iload_n 2, 1) := by decide +kernel
theorem dX8_writeTo_18 : decode cX8_writeTo 18 = .ok (.iload 4, 2) := by decide +kernel
theorem dX8_writeTo_20 : decode cX8_writeTo 20 = .ok (.invokevirtual 36, 3) := by decide +kernel
theorem dX8_writeTo_23 : decode cX8_writeTo 23 = .ok (.istore 5, 2) := by decide +kernel
theorem dX8_writeTo_25 : decode cX8_writeTo 25 = .ok (.iinc 3 1, 3) := by decide +kernel
theorem dX8_writeTo_28 : decode cX8_writeTo 28 = .ok (.iload 4, 2) := by decide +kernel
theorem dX8_writeTo_30 : decode cX8_writeTo 30 = .ok (.iconst 1, 1) := by decide +kernel
theorem dX8_writeTo_31 : decode cX8_writeTo 31 = .ok (.iadd, 1) := by decide +kernel
theorem dX8_writeTo_32 : decode cX8_writeTo 32 = .ok (.aload_n 0, 1) := by decide +kernel
theorem dX8_writeTo_33 : decode cX8_writeTo 33 = .ok (.getfield 15, 3) := by decide +kernel
theorem dX8_writeTo_36 : decode cX8_writeTo 36 = .ok (.iload_n 2, 1) := by decide +kernel
theorem dX8_writeTo_37 : decode cX8_writeTo 37 = .ok (.iaload, 1) := by decide +kernel
theorem dX8_writeTo_38 : decode cX8_writeTo 38 = .ok (.if_icmp .eq 17, 3) := by decide +kernel
theorem dX8_writeTo_41 : decode cX8_writeTo 41 = .ok (.aload_n 0, 1) := by decide +kernel
theorem dX8_writeTo_42 : decode cX8_writeTo 42 = .ok (.iload_n 2, 1) := by decide +kernel
theorem dX8_writeTo_43 : decode cX8_writeTo 43 = .ok (.iload 4, 2) := by decide +kernel
theorem dX8_writeTo_45 : decode cX8_writeTo 45 = .ok (.iconst 1, 1) := by decide +kernel
theorem dX8_writeTo_46 : decode cX8_writeTo 46 = .ok (.iadd, 1) := by decide +kernel
theorem dX8_writeTo_47 : decode cX8_writeTo 47 = .ok (.invokevirtual 36, 3) := by decide +kernel
theorem dX8_writeTo_50 : decode cX8_writeTo 50 = .ok (.iload 5, 2) := by decide +kernel
theorem dX8_writeTo_52 : decode cX8_writeTo 52 = .ok (.if_icmp .eq 20, 3) := by decide +kernel
theorem dX8_writeTo_55 : decode cX8_writeTo 55 = .ok (.aload_n 1, 1) := by decide +kernel
theorem dX8_writeTo_56 : decode cX8_writeTo 56 = .ok (.iload 5, 2) := by decide +kernel
theorem dX8_writeTo_58 : decode cX8_writeTo 58 = .ok (.invokestatic 55, 3) := by decide +kernel
theorem dX8_writeTo_61 : decode cX8_writeTo 61 = .ok (.invokevirtual 59, 3) := by decide +kernel
theorem dX8_writeTo_64 : decode cX8_writeTo 64 = .ok (.pop, 1) := by decide +kernel
theorem dX8_writeTo_65 : decode cX8_writeTo 65 = .ok (.aload_n 1, 1) := by decide +kernel
theorem dX8_writeTo_66 : decode cX8_writeTo 66 = .ok (.iload_n 3, 1) := by decide +kernel
theorem dX8_writeTo_67 : decode cX8_writeTo 67 = .ok (.invokevirtual 64, 3) := by decide +kernel
theorem dX8_writeTo_70 : decode cX8_writeTo 70 = .ok (.iconst 0, 1) := by decide +kernel
theorem dX8_writeTo_71 : decode cX8_writeTo 71 = .ok (.istore_n 3, 1) := by decide +kernel
theorem dX8_writeTo_72 : decode cX8_writeTo 72 = .ok (.iinc 4 1, 3) := by decide +kernel
theorem dX8_writeTo_75 : decode cX8_writeTo 75 = .ok (.goto (-70), 3) := by decide +kernel
theorem dX8_writeTo_78 : decode cX8_writeTo 78 = .ok (.return_, 1) := by decide +kernel
theorem dX9_init_0 : decode cX9_init 0 = .ok (.aload_n 0, 1) := by decide +kernel
theorem dX9_init_1 : decode cX9_init 1 = .ok (.invokespecial 3, 3) := by decide +kernel
theorem dX9_init_4 : decode cX9_init 4 = .ok (.aload_n 0, 1) := by decide +kernel
theorem dX9_init_5 : decode cX9_init 5 = .ok (.bipush 81, 2) := by decide +kernel
theorem dX9_init_7 : decode cX9_init 7 = .ok (.newarray .int, 2) := by decide +kernel
theorem dX9_init_9 : decode cX9_init 9 = .ok (.putfield 9, 3) := by decide +kernel
theorem dX9_init_12 : decode cX9_init 12 = .ok (.return_, 1) := by decide +kernel
theorem dX9_copyFrom_0 : decode cX9_copyFrom 0 = .ok (.aload_n 1, 1) := by decide +kernel
theorem dX9_copyFrom_1 : decode cX9_copyFrom 1 = .ok (.getfield 9, 3) := by decide +kernel
theorem dX9_copyFrom_4 : decode cX9_copyFrom 4 = .ok (.iconst 0, 1) := by decide +kernel
theorem dX9_copyFrom_5 : decode cX9_copyFrom 5 = .ok (.aload_n 0, 1) := by decide +kernel
theorem dX9_copyFrom_6 : decode cX9_copyFrom 6 = .ok (.getfield 9, 3) := by decide +kernel
theorem dX9_copyFrom_9 : decode cX9_copyFrom 9 = .ok (.iconst 0, 1) := by decide +kernel
theorem dX9_copyFrom_10 : decode cX9_copyFrom 10 = .ok (.bipush 81, 2) := by decide +kernel
theorem dX9_copyFrom_12 : decode cX9_copyFrom 12 = .ok (.invokestatic 15, 3) := by decide +kernel
theorem dX9_copyFrom_15 : decode cX9_copyFrom 15 = .ok (.aload_n 0, 1) := by decide +kernel
theorem dX9_copyFrom_16 : decode cX9_copyFrom 16 = .ok (.aload_n 1, 1) := by decide +kernel
theorem dX9_copyFrom_17 : decode cX9_copyFrom 17 = .ok (.getfield 21, 3) := by decide +kernel
theorem dX9_copyFrom_20 : decode cX9_copyFrom 20 = .ok (.putfield 21, 3) := by decide +kernel
theorem dX9_copyFrom_23 : decode cX9_copyFrom 23 = .ok (.aload_n 0, 1) := by decide +kernel
theorem dX9_copyFrom_24 : decode cX9_copyFrom 24 = .ok (.aload_n 1, 1) := by decide +kernel
theorem dX9_copyFrom_25 : decode cX9_copyFrom 25 = .ok (.getfield 25, 3) := by decide +kernel
theorem dX9_copyFrom_28 : decode cX9_copyFrom 28 = .ok (.putfield 25, 3) := by decide +kernel
theorem dX9_copyFrom_31 : decode cX9_copyFrom 31 = .ok (.return_, 1) := by decide +kernel
theorem dX9_stateOf_0 : decode cX9_stateOf 0 = .ok (.aload_n 0, 1) := by decide +kernel
theorem dX9_stateOf_1 : decode cX9_stateOf 1 = .ok (.getfield 9, 3) := by decide +kernel
theorem dX9_stateOf_4 : decode cX9_stateOf 4 = .ok (.iload_n 1, 1) := by decide +kernel
theorem dX9_stateOf_5 : decode cX9_stateOf 5 = .ok (.iaload, 1) := by decide +kernel
theorem dX9_stateOf_6 : decode cX9_stateOf 6 = .ok (.ireturn, 1) := by decide +kernel
theorem dX9_standingIn_0 : decode cX9_standingIn 0 = .ok (.aload_n 0, 1) := by decide +kernel
theorem dX9_standingIn_1 : decode cX9_standingIn 1 = .ok (.getfield 9, 3) := by decide +kernel
theorem dX9_standingIn_4 : decode cX9_standingIn 4 = .ok (.iload_n 1, 1) := by decide +kernel
theorem dX9_standingIn_5 : decode cX9_standingIn 5 = .ok (.iaload, 1) := by decide +kernel
theorem dX9_standingIn_6 : decode cX9_standingIn 6 = .ok (.iconst 1, 1) := by decide +kernel
theorem dX9_standingIn_7 : decode cX9_standingIn 7 = .ok (.if_icmp .ne 7, 3) := by decide +kernel
theorem dX9_standingIn_10 : decode cX9_standingIn 10 = .ok (.iconst 1, 1) := by decide +kernel
theorem dX9_standingIn_11 : decode cX9_standingIn 11 = .ok (.goto 4, 3) := by decide +kernel
theorem dX9_standingIn_14 : decode cX9_standingIn 14 = .ok (.iconst 0, 1) := by decide +kernel
theorem dX9_standingIn_15 : decode cX9_standingIn 15 = .ok (.ireturn, 1) := by decide +kernel
theorem dX9_standingInPair_0 : decode cX9_standingInPair 0 = .ok (.iload_n 1, 1) := by decide +kernel
theorem dX9_standingInPair_1 : decode cX9_standingInPair 1 = .ok (.invokestatic 28, 3) := by decide +kernel
theorem dX9_standingInPair_4 : decode cX9_standingInPair 4 = .ok (.istore_n 2, 1) := by decide +kernel
theorem dX9_standingInPair_5 : decode cX9_standingInPair 5 = .ok (.iload_n 2, 1) := by decide +kernel
theorem dX9_standingInPair_6 : decode cX9_standingInPair 6 = .ok (.iload_n 1, 1) := by decide +kernel
theorem dX9_standingInPair_7 : decode cX9_standingInPair 7 = .ok (.if_icmp .ne 11, 3) := by decide +kernel
theorem dX9_standingInPair_10 : decode cX9_standingInPair 10 = .ok (.aload_n 0, 1) := by decide +kernel
theorem dX9_standingInPair_11 : decode cX9_standingInPair 11 = .ok (.iload_n 1, 1) := by decide +kernel
theorem dX9_standingInPair_12 : decode cX9_standingInPair 12 = .ok (.invokevirtual 32, 3) := by decide +kernel
theorem dX9_standingInPair_15 : decode cX9_standingInPair 15 = .ok (.goto 14, 3) := by decide +kernel
theorem dX9_standingInPair_18 : decode cX9_standingInPair 18 = .ok (.aload_n 0, 1) := by decide +kernel
theorem dX9_standingInPair_19 : decode cX9_standingInPair 19 = .ok (.iload_n 1, 1) := by decide +kernel
theorem dX9_standingInPair_20 : decode cX9_standingInPair 20 = .ok (.invokevirtual 32, 3) := by decide +kernel
theorem dX9_standingInPair_23 : decode cX9_standingInPair 23 = .ok (.aload_n 0, 1) := by decide +kernel
theorem dX9_standingInPair_24 : decode cX9_standingInPair 24 = .ok (.iload_n 2, 1) := by decide +kernel
theorem dX9_standingInPair_25 : decode cX9_standingInPair 25 = .ok (.invokevirtual 32, 3) := by decide +kernel
theorem dX9_standingInPair_28 : decode cX9_standingInPair 28 = .ok (.iadd, 1) := by decide +kernel
theorem dX9_standingInPair_29 : decode cX9_standingInPair 29 = .ok (.ireturn, 1) := by decide +kernel
theorem dX9_isOpen_0 : decode cX9_isOpen 0 = .ok (.aload_n 0, 1) := by decide +kernel
theorem dX9_isOpen_1 : decode cX9_isOpen 1 = .ok (.getfield 9, 3) := by decide +kernel
theorem dX9_isOpen_4 : decode cX9_isOpen 4 = .ok (.iload_n 1, 1) := by decide +kernel
theorem dX9_isOpen_5 : decode cX9_isOpen 5 = .ok (.iaload, 1) := by decide +kernel
theorem dX9_isOpen_6 : decode cX9_isOpen 6 = .ok (.iconst 1, 1) := by decide +kernel
theorem dX9_isOpen_7 : decode cX9_isOpen 7 = .ok (.if_icmp .eq 20, 3) := by decide +kernel
theorem dX9_isOpen_10 : decode cX9_isOpen 10 = .ok (.aload_n 0, 1) := by decide +kernel
theorem dX9_isOpen_11 : decode cX9_isOpen 11 = .ok (.getfield 9, 3) := by decide +kernel
theorem dX9_isOpen_14 : decode cX9_isOpen 14 = .ok (.iload_n 1, 1) := by decide +kernel
theorem dX9_isOpen_15 : decode cX9_isOpen 15 = .ok (.invokestatic 28, 3) := by decide +kernel
theorem dX9_isOpen_18 : decode cX9_isOpen 18 = .ok (.iaload, 1) := by decide +kernel
theorem dX9_isOpen_19 : decode cX9_isOpen 19 = .ok (.iconst 1, 1) := by decide +kernel
theorem dX9_isOpen_20 : decode cX9_isOpen 20 = .ok (.if_icmp .eq 7, 3) := by decide +kernel
theorem dX9_isOpen_23 : decode cX9_isOpen 23 = .ok (.iconst 1, 1) := by decide +kernel
theorem dX9_isOpen_24 : decode cX9_isOpen 24 = .ok (.goto 4, 3) := by decide +kernel
theorem dX9_isOpen_27 : decode cX9_isOpen 27 = .ok (.iconst 0, 1) := by decide +kernel
theorem dX9_isOpen_28 : decode cX9_isOpen 28 = .ok (.ireturn, 1) := by decide +kernel
theorem dX9_openCells_0 : decode cX9_openCells 0 = .ok (.iconst 0, 1) := by decide +kernel
theorem dX9_openCells_1 : decode cX9_openCells 1 = .ok (.istore_n 1, 1) := by decide +kernel
theorem dX9_openCells_2 : decode cX9_openCells 2 = .ok (.iconst 0, 1) := by decide +kernel
theorem dX9_openCells_3 : decode cX9_openCells 3 = .ok (.istore_n 2, 1) := by decide +kernel
theorem dX9_openCells_4 : decode cX9_openCells 4 = .ok (.iload_n 2, 1) := by decide +kernel
theorem dX9_openCells_5 : decode cX9_openCells 5 = .ok (.bipush 81, 2) := by decide +kernel
theorem dX9_openCells_7 : decode cX9_openCells 7 = .ok (.if_icmp .ge 25, 3) := by decide +kernel
theorem dX9_openCells_10 : decode cX9_openCells 10 = .ok (.iload_n 1, 1) := by decide +kernel
theorem dX9_openCells_11 : decode cX9_openCells 11 = .ok (.aload_n 0, 1) := by decide +kernel
theorem dX9_openCells_12 : decode cX9_openCells 12 = .ok (.iload_n 2, 1) := by decide +kernel
theorem dX9_openCells_13 : decode cX9_openCells 13 = .ok (.invokevirtual 35, 3) := by decide +kernel
theorem dX9_openCells_16 : decode cX9_openCells 16 = .ok (.ifCond .eq 7, 3) := by decide +kernel
theorem dX9_openCells_19 : decode cX9_openCells 19 = .ok (.iconst 1, 1) := by decide +kernel
theorem dX9_openCells_20 : decode cX9_openCells 20 = .ok (.goto 4, 3) := by decide +kernel
theorem dX9_openCells_23 : decode cX9_openCells 23 = .ok (.iconst 0, 1) := by decide +kernel
theorem dX9_openCells_24 : decode cX9_openCells 24 = .ok (.iadd, 1) := by decide +kernel
theorem dX9_openCells_25 : decode cX9_openCells 25 = .ok (.istore_n 1, 1) := by decide +kernel
theorem dX9_openCells_26 : decode cX9_openCells 26 = .ok (.iinc 2 1, 3) := by decide +kernel
theorem dX9_openCells_29 : decode cX9_openCells 29 = .ok (.goto (-25), 3) := by decide +kernel
theorem dX9_openCells_32 : decode cX9_openCells 32 = .ok (.iload_n 1, 1) := by decide +kernel
theorem dX9_openCells_33 : decode cX9_openCells 33 = .ok (.ireturn, 1) := by decide +kernel
theorem dX9_oddByCells_0 : decode cX9_oddByCells 0 = .ok (.iconst 0, 1) := by decide +kernel
theorem dX9_oddByCells_1 : decode cX9_oddByCells 1 = .ok (.istore_n 1, 1) := by decide +kernel
theorem dX9_oddByCells_2 : decode cX9_oddByCells 2 = .ok (.iconst 0, 1) := by decide +kernel
theorem dX9_oddByCells_3 : decode cX9_oddByCells 3 = .ok (.istore_n 2, 1) := by decide +kernel
theorem dX9_oddByCells_4 : decode cX9_oddByCells 4 = .ok (.iload_n 2, 1) := by decide +kernel
theorem dX9_oddByCells_5 : decode cX9_oddByCells 5 = .ok (.bipush 81, 2) := by decide +kernel
theorem dX9_oddByCells_7 : decode cX9_oddByCells 7 = .ok (.if_icmp .ge 37, 3) := by decide +kernel
theorem dX9_oddByCells_10 : decode cX9_oddByCells 10 = .ok (.iload_n 1, 1) := by decide +kernel
theorem dX9_oddByCells_11 : decode cX9_oddByCells 11 = .ok (.aload_n 0, 1) := by decide +kernel
theorem dX9_oddByCells_12 : decode cX9_oddByCells 12 = .ok (.iload_n 2, 1) := by decide +kernel
theorem dX9_oddByCells_13 : decode cX9_oddByCells 13 = .ok (.invokevirtual 32, 3) := by decide +kernel
theorem dX9_oddByCells_16 : decode cX9_oddByCells 16 = .ok (.iconst 1, 1) := by decide +kernel
theorem dX9_oddByCells_17 : decode cX9_oddByCells 17 = .ok (.if_icmp .ne 18, 3) := by decide +kernel
theorem dX9_oddByCells_20 : decode cX9_oddByCells 20 = .ok (.aload_n 0, 1) := by decide +kernel
theorem dX9_oddByCells_21 : decode cX9_oddByCells 21 = .ok (.iload_n 2, 1) := by decide +kernel
theorem dX9_oddByCells_22 : decode cX9_oddByCells 22 = .ok (.invokestatic 28, 3) := by decide +kernel
theorem dX9_oddByCells_25 : decode cX9_oddByCells 25 = .ok (.invokevirtual 32, 3) := by decide +kernel
theorem dX9_oddByCells_28 : decode cX9_oddByCells 28 = .ok (.ifCond .ne 7, 3) := by decide +kernel
theorem dX9_oddByCells_31 : decode cX9_oddByCells 31 = .ok (.iconst 1, 1) := by decide +kernel
theorem dX9_oddByCells_32 : decode cX9_oddByCells 32 = .ok (.goto 4, 3) := by decide +kernel
theorem dX9_oddByCells_35 : decode cX9_oddByCells 35 = .ok (.iconst 0, 1) := by decide +kernel
theorem dX9_oddByCells_36 : decode cX9_oddByCells 36 = .ok (.iadd, 1) := by decide +kernel
theorem dX9_oddByCells_37 : decode cX9_oddByCells 37 = .ok (.istore_n 1, 1) := by decide +kernel
theorem dX9_oddByCells_38 : decode cX9_oddByCells 38 = .ok (.iinc 2 1, 3) := by decide +kernel
theorem dX9_oddByCells_41 : decode cX9_oddByCells 41 = .ok (.goto (-37), 3) := by decide +kernel
theorem dX9_oddByCells_44 : decode cX9_oddByCells 44 = .ok (.iload_n 1, 1) := by decide +kernel
theorem dX9_oddByCells_45 : decode cX9_oddByCells 45 = .ok (.ireturn, 1) := by decide +kernel
theorem dX9_oddByRows_0 : decode cX9_oddByRows 0 = .ok (.iconst 0, 1) := by decide +kernel
theorem dX9_oddByRows_1 : decode cX9_oddByRows 1 = .ok (.istore_n 1, 1) := by decide +kernel
theorem dX9_oddByRows_2 : decode cX9_oddByRows 2 = .ok (.iconst 0, 1) := by decide +kernel
theorem dX9_oddByRows_3 : decode cX9_oddByRows 3 = .ok (.istore_n 2, 1) := by decide +kernel
theorem dX9_oddByRows_4 : decode cX9_oddByRows 4 = .ok (.iload_n 2, 1) := by decide +kernel
theorem dX9_oddByRows_5 : decode cX9_oddByRows 5 = .ok (.bipush 9, 2) := by decide +kernel
theorem dX9_oddByRows_7 : decode cX9_oddByRows 7 = .ok (.if_icmp .ge 76, 3) := by decide +kernel
theorem dX9_oddByRows_10 : decode cX9_oddByRows 10 = .ok (.iconst 0, 1) := by decide +kernel
theorem dX9_oddByRows_11 : decode cX9_oddByRows 11 = .ok (.istore_n 3, 1) := by decide +kernel
theorem dX9_oddByRows_12 : decode cX9_oddByRows 12 = .ok (.iconst 0, 1) := by decide +kernel
theorem dX9_oddByRows_13 : decode cX9_oddByRows 13 = .ok (.istore 4, 2) := by decide +kernel
theorem dX9_oddByRows_15 : decode cX9_oddByRows 15 = .ok (.iconst 0, 1) := by decide +kernel
theorem dX9_oddByRows_16 : decode cX9_oddByRows 16 = .ok (.istore 5, 2) := by decide +kernel
theorem dX9_oddByRows_18 : decode cX9_oddByRows 18 = .ok (.iload 5, 2) := by decide +kernel
theorem dX9_oddByRows_20 : decode cX9_oddByRows 20 = .ok (.bipush 9, 2) := by decide +kernel
theorem dX9_oddByRows_22 : decode cX9_oddByRows 22 = .ok (.if_icmp .ge 43, 3) := by decide +kernel
theorem dX9_oddByRows_25 : decode cX9_oddByRows 25 = .ok (.aload_n 0, 1) := by decide +kernel
theorem dX9_oddByRows_26 : decode cX9_oddByRows 26 = .ok (.iload_n 2, 1) := by decide +kernel
theorem dX9_oddByRows_27 : decode cX9_oddByRows 27 = .ok (.bipush 9, 2) := by decide +kernel
theorem dX9_oddByRows_29 : decode cX9_oddByRows 29 = .ok (.imul, 1) := by decide +kernel
theorem dX9_oddByRows_30 : decode cX9_oddByRows 30 = .ok (.iload 5, 2) := by decide +kernel
theorem dX9_oddByRows_32 : decode cX9_oddByRows 32 = .ok (.iadd, 1) := by decide +kernel
theorem dX9_oddByRows_33 : decode cX9_oddByRows 33 = .ok (.invokevirtual 32, 3) := by decide +kernel
theorem dX9_oddByRows_36 : decode cX9_oddByRows 36 = .ok (.istore 6, 2) := by decide +kernel
theorem dX9_oddByRows_38 : decode cX9_oddByRows 38 = .ok (.iload_n 3, 1) := by decide +kernel
theorem dX9_oddByRows_39 : decode cX9_oddByRows 39 = .ok (.iload 6, 2) := by decide +kernel
theorem dX9_oddByRows_41 : decode cX9_oddByRows 41 = .ok (.iload 5, 2) := by decide +kernel
theorem dX9_oddByRows_43 : decode cX9_oddByRows 43 = .ok (.ishl, 1) := by decide +kernel
theorem dX9_oddByRows_44 : decode cX9_oddByRows 44 = .ok (.ior, 1) := by decide +kernel
theorem dX9_oddByRows_45 : decode cX9_oddByRows 45 = .ok (.istore_n 3, 1) := by decide +kernel
theorem dX9_oddByRows_46 : decode cX9_oddByRows 46 = .ok (.iload 4, 2) := by decide +kernel
theorem dX9_oddByRows_48 : decode cX9_oddByRows 48 = .ok (.iload 6, 2) := by decide +kernel
theorem dX9_oddByRows_50 : decode cX9_oddByRows 50 = .ok (.bipush 8, 2) := by decide +kernel
theorem dX9_oddByRows_52 : decode cX9_oddByRows 52 = .ok (.iload 5, 2) := by decide +kernel
theorem dX9_oddByRows_54 : decode cX9_oddByRows 54 = .ok (.isub, 1) := by decide +kernel
theorem dX9_oddByRows_55 : decode cX9_oddByRows 55 = .ok (.ishl, 1) := by decide +kernel
theorem dX9_oddByRows_56 : decode cX9_oddByRows 56 = .ok (.ior, 1) := by decide +kernel
theorem dX9_oddByRows_57 : decode cX9_oddByRows 57 = .ok (.istore 4, 2) := by decide +kernel
theorem dX9_oddByRows_59 : decode cX9_oddByRows 59 = .ok (.iinc 5 1, 3) := by decide +kernel
theorem dX9_oddByRows_62 : decode cX9_oddByRows 62 = .ok (.goto (-44), 3) := by decide +kernel
theorem dX9_oddByRows_65 : decode cX9_oddByRows 65 = .ok (.iload_n 1, 1) := by decide +kernel
theorem dX9_oddByRows_66 : decode cX9_oddByRows 66 = .ok (.iload_n 3, 1) := by decide +kernel
theorem dX9_oddByRows_67 : decode cX9_oddByRows 67 = .ok (.iload 4, 2) := by decide +kernel
theorem dX9_oddByRows_69 : decode cX9_oddByRows 69 = .ok (.iconst (-1), 1) := by decide +kernel
theorem dX9_oddByRows_70 : decode cX9_oddByRows 70 = .ok (.ixor, 1) := by decide +kernel
theorem dX9_oddByRows_71 : decode cX9_oddByRows 71 = .ok (.iand, 1) := by decide +kernel
theorem dX9_oddByRows_72 : decode cX9_oddByRows 72 = .ok (.invokestatic 39, 3) := by decide +kernel
theorem dX9_oddByRows_75 : decode cX9_oddByRows 75 = .ok (.iadd, 1) := by decide +kernel
theorem dX9_oddByRows_76 : decode cX9_oddByRows 76 = .ok (.istore_n 1, 1) := by decide +kernel
theorem dX9_oddByRows_77 : decode cX9_oddByRows 77 = .ok (.iinc 2 1, 3) := by decide +kernel
theorem dX9_oddByRows_80 : decode cX9_oddByRows 80 = .ok (.goto (-76), 3) := by decide +kernel
theorem dX9_oddByRows_83 : decode cX9_oddByRows 83 = .ok (.iload_n 1, 1) := by decide +kernel
theorem dX9_oddByRows_84 : decode cX9_oddByRows 84 = .ok (.ireturn, 1) := by decide +kernel
theorem dX9_grow_0 : decode cX9_grow 0 = .ok (.aload_n 0, 1) := by decide +kernel
theorem dX9_grow_1 : decode cX9_grow 1 = .ok (.getfield 9, 3) := by decide +kernel
theorem dX9_grow_4 : decode cX9_grow 4 = .ok (.iload_n 1, 1) := by decide +kernel
theorem dX9_grow_5 : decode cX9_grow 5 = .ok (.iconst 1, 1) := by decide +kernel
theorem dX9_grow_6 : decode cX9_grow 6 = .ok (.iastore, 1) := by decide +kernel
theorem dX9_grow_7 : decode cX9_grow 7 = .ok (.aload_n 0, 1) := by decide +kernel
theorem dX9_grow_8 : decode cX9_grow 8 = .ok (.dup, 1) := by decide +kernel
theorem dX9_grow_9 : decode cX9_grow 9 = .ok (.getfield 21, 3) := by decide +kernel
theorem dX9_grow_12 : decode cX9_grow 12 = .ok (.iconst 1, 1) := by decide +kernel
theorem dX9_grow_13 : decode cX9_grow 13 = .ok (.iadd, 1) := by decide +kernel
theorem dX9_grow_14 : decode cX9_grow 14 = .ok (.putfield 21, 3) := by decide +kernel
theorem dX9_grow_17 : decode cX9_grow 17 = .ok (.aload_n 0, 1) := by decide +kernel
theorem dX9_grow_18 : decode cX9_grow 18 = .ok (.getfield 21, 3) := by decide +kernel
theorem dX9_grow_21 : decode cX9_grow 21 = .ok (.ireturn, 1) := by decide +kernel
theorem dX9_snap_0 : decode cX9_snap 0 = .ok (.aload_n 0, 1) := by decide +kernel
theorem dX9_snap_1 : decode cX9_snap 1 = .ok (.getfield 9, 3) := by decide +kernel
theorem dX9_snap_4 : decode cX9_snap 4 = .ok (.iload_n 1, 1) := by decide +kernel
theorem dX9_snap_5 : decode cX9_snap 5 = .ok (.iconst 2, 1) := by decide +kernel
theorem dX9_snap_6 : decode cX9_snap 6 = .ok (.iastore, 1) := by decide +kernel
theorem dX9_snap_7 : decode cX9_snap 7 = .ok (.aload_n 0, 1) := by decide +kernel
theorem dX9_snap_8 : decode cX9_snap 8 = .ok (.dup, 1) := by decide +kernel
theorem dX9_snap_9 : decode cX9_snap 9 = .ok (.getfield 25, 3) := by decide +kernel
theorem dX9_snap_12 : decode cX9_snap 12 = .ok (.iconst 1, 1) := by decide +kernel
theorem dX9_snap_13 : decode cX9_snap 13 = .ok (.iadd, 1) := by decide +kernel
theorem dX9_snap_14 : decode cX9_snap 14 = .ok (.putfield 25, 3) := by decide +kernel
theorem dX9_snap_17 : decode cX9_snap 17 = .ok (.aload_n 0, 1) := by decide +kernel
theorem dX9_snap_18 : decode cX9_snap 18 = .ok (.getfield 25, 3) := by decide +kernel
theorem dX9_snap_21 : decode cX9_snap 21 = .ok (.ireturn, 1) := by decide +kernel
theorem dX9_cut_0 : decode cX9_cut 0 = .ok (.aload_n 0, 1) := by decide +kernel
theorem dX9_cut_1 : decode cX9_cut 1 = .ok (.dup, 1) := by decide +kernel
theorem dX9_cut_2 : decode cX9_cut 2 = .ok (.getfield 25, 3) := by decide +kernel
theorem dX9_cut_5 : decode cX9_cut 5 = .ok (.aload_n 0, 1) := by decide +kernel
theorem dX9_cut_6 : decode cX9_cut 6 = .ok (.getfield 9, 3) := by decide +kernel
theorem dX9_cut_9 : decode cX9_cut 9 = .ok (.iload_n 1, 1) := by decide +kernel
theorem dX9_cut_10 : decode cX9_cut 10 = .ok (.iaload, 1) := by decide +kernel
theorem dX9_cut_11 : decode cX9_cut 11 = .ok (.iconst 2, 1) := by decide +kernel
theorem dX9_cut_12 : decode cX9_cut 12 = .ok (.if_icmp .ne 7, 3) := by decide +kernel
theorem dX9_cut_15 : decode cX9_cut 15 = .ok (.iconst 1, 1) := by decide +kernel
theorem dX9_cut_16 : decode cX9_cut 16 = .ok (.goto 4, 3) := by decide +kernel
theorem dX9_cut_19 : decode cX9_cut 19 = .ok (.iconst 0, 1) := by decide +kernel
theorem dX9_cut_20 : decode cX9_cut 20 = .ok (.isub, 1) := by decide +kernel
theorem dX9_cut_21 : decode cX9_cut 21 = .ok (.putfield 25, 3) := by decide +kernel
theorem dX9_cut_24 : decode cX9_cut 24 = .ok (.aload_n 0, 1) := by decide +kernel
theorem dX9_cut_25 : decode cX9_cut 25 = .ok (.getfield 9, 3) := by decide +kernel
theorem dX9_cut_28 : decode cX9_cut 28 = .ok (.iload_n 1, 1) := by decide +kernel
theorem dX9_cut_29 : decode cX9_cut 29 = .ok (.iconst 0, 1) := by decide +kernel
theorem dX9_cut_30 : decode cX9_cut 30 = .ok (.iastore, 1) := by decide +kernel
theorem dX9_cut_31 : decode cX9_cut 31 = .ok (.aload_n 0, 1) := by decide +kernel
theorem dX9_cut_32 : decode cX9_cut 32 = .ok (.dup, 1) := by decide +kernel
theorem dX9_cut_33 : decode cX9_cut 33 = .ok (.getfield 21, 3) := by decide +kernel
theorem dX9_cut_36 : decode cX9_cut 36 = .ok (.iconst 1, 1) := by decide +kernel
theorem dX9_cut_37 : decode cX9_cut 37 = .ok (.isub, 1) := by decide +kernel
theorem dX9_cut_38 : decode cX9_cut 38 = .ok (.putfield 21, 3) := by decide +kernel
theorem dX9_cut_41 : decode cX9_cut 41 = .ok (.aload_n 0, 1) := by decide +kernel
theorem dX9_cut_42 : decode cX9_cut 42 = .ok (.getfield 21, 3) := by decide +kernel
theorem dX9_cut_45 : decode cX9_cut 45 = .ok (.ireturn, 1) := by decide +kernel
theorem dX10_init_0 : decode cX10_init 0 = .ok (.aload_n 0, 1) := by decide +kernel
theorem dX10_init_1 : decode cX10_init 1 = .ok (.invokespecial 3, 3) := by decide +kernel
theorem dX10_init_4 : decode cX10_init 4 = .ok (.aload_n 0, 1) := by decide +kernel
theorem dX10_init_5 : decode cX10_init 5 = .ok (.bipush 60, 2) := by decide +kernel
theorem dX10_init_7 : decode cX10_init 7 = .ok (.newarray .char, 2) := by decide +kernel
theorem dX10_init_9 : decode cX10_init 9 = .ok (.putfield 9, 3) := by decide +kernel
theorem dX10_init_12 : decode cX10_init 12 = .ok (.return_, 1) := by decide +kernel
theorem dX10_put_0 : decode cX10_put 0 = .ok (.aload_n 0, 1) := by decide +kernel
theorem dX10_put_1 : decode cX10_put 1 = .ok (.getfield 15, 3) := by decide +kernel
theorem dX10_put_4 : decode cX10_put 4 = .ok (.bipush 60, 2) := by decide +kernel
theorem dX10_put_6 : decode cX10_put 6 = .ok (.if_icmp .ge 23, 3) := by decide +kernel
theorem dX10_put_9 : decode cX10_put 9 = .ok (.aload_n 0, 1) := by decide +kernel
theorem dX10_put_10 : decode cX10_put 10 = .ok (.getfield 9, 3) := by decide +kernel
theorem dX10_put_13 : decode cX10_put 13 = .ok (.aload_n 0, 1) := by decide +kernel
theorem dX10_put_14 : decode cX10_put 14 = .ok (.getfield 15, 3) := by decide +kernel
theorem dX10_put_17 : decode cX10_put 17 = .ok (.iload_n 1, 1) := by decide +kernel
theorem dX10_put_18 : decode cX10_put 18 = .ok (.castore, 1) := by decide +kernel
theorem dX10_put_19 : decode cX10_put 19 = .ok (.aload_n 0, 1) := by decide +kernel
theorem dX10_put_20 : decode cX10_put 20 = .ok (.dup, 1) := by decide +kernel
theorem dX10_put_21 : decode cX10_put 21 = .ok (.getfield 15, 3) := by decide +kernel
theorem dX10_put_24 : decode cX10_put 24 = .ok (.iconst 1, 1) := by decide +kernel
theorem dX10_put_25 : decode cX10_put 25 = .ok (.iadd, 1) := by decide +kernel
theorem dX10_put_26 : decode cX10_put 26 = .ok (.putfield 15, 3) := by decide +kernel
theorem dX10_put_29 : decode cX10_put 29 = .ok (.aload_n 0, 1) := by decide +kernel
theorem dX10_put_30 : decode cX10_put 30 = .ok (.getfield 15, 3) := by decide +kernel
theorem dX10_put_33 : decode cX10_put 33 = .ok (.ireturn, 1) := by decide +kernel
theorem dX10_putNumberAboveOne_0 : decode cX10_putNumberAboveOne 0 = .ok (.iload_n 1, 1) := by decide +kernel
theorem dX10_putNumberAboveOne_1 : decode cX10_putNumberAboveOne 1 = .ok (.bipush 10, 2) := by decide +kernel
theorem dX10_putNumberAboveOne_3 : decode cX10_putNumberAboveOne 3 = .ok (.if_icmp .lt 19, 3) := by decide +kernel
theorem dX10_putNumberAboveOne_6 : decode cX10_putNumberAboveOne 6 = .ok (.aload_n 0, 1) := by decide +kernel
theorem dX10_putNumberAboveOne_7 : decode cX10_putNumberAboveOne 7 = .ok (.bipush 48, 2) := by decide +kernel
theorem dX10_putNumberAboveOne_9 : decode cX10_putNumberAboveOne 9 = .ok (.iload_n 1, 1) := by decide +kernel
theorem dX10_putNumberAboveOne_10 : decode cX10_putNumberAboveOne 10 = .ok (.bipush 10, 2) := by decide +kernel
theorem dX10_putNumberAboveOne_12 : decode cX10_putNumberAboveOne 12 = .ok (.idiv, 1) := by decide +kernel
theorem dX10_putNumberAboveOne_13 : decode cX10_putNumberAboveOne 13 = .ok (.bipush 10, 2) := by decide +kernel
theorem dX10_putNumberAboveOne_15 : decode cX10_putNumberAboveOne 15 = .ok (.irem, 1) := by decide +kernel
theorem dX10_putNumberAboveOne_16 : decode cX10_putNumberAboveOne 16 = .ok (.iadd, 1) := by decide +kernel
theorem dX10_putNumberAboveOne_17 : decode cX10_putNumberAboveOne 17 = .ok (.i2c, 1) := by decide +kernel
theorem dX10_putNumberAboveOne_18 : decode cX10_putNumberAboveOne 18 = .ok (.invokevirtual 19, 3) := by decide +kernel
theorem dX10_putNumberAboveOne_21 : decode cX10_putNumberAboveOne 21 = .ok (.pop, 1) := by decide +kernel
theorem dX10_putNumberAboveOne_22 : decode cX10_putNumberAboveOne 22 = .ok (.iload_n 1, 1) := by decide +kernel
theorem dX10_putNumberAboveOne_23 : decode cX10_putNumberAboveOne 23 = .ok (.iconst 1, 1) := by decide +kernel
theorem dX10_putNumberAboveOne_24 : decode cX10_putNumberAboveOne 24 = .ok (.if_icmp .le 16, 3) := by decide +kernel
theorem dX10_putNumberAboveOne_27 : decode cX10_putNumberAboveOne 27 = .ok (.aload_n 0, 1) := by decide +kernel
theorem dX10_putNumberAboveOne_28 : decode cX10_putNumberAboveOne 28 = .ok (.bipush 48, 2) := by decide +kernel
theorem dX10_putNumberAboveOne_30 : decode cX10_putNumberAboveOne 30 = .ok (.iload_n 1, 1) := by decide +kernel
theorem dX10_putNumberAboveOne_31 : decode cX10_putNumberAboveOne 31 = .ok (.bipush 10, 2) := by decide +kernel
theorem dX10_putNumberAboveOne_33 : decode cX10_putNumberAboveOne 33 = .ok (.irem, 1) := by decide +kernel
theorem dX10_putNumberAboveOne_34 : decode cX10_putNumberAboveOne 34 = .ok (.iadd, 1) := by decide +kernel
theorem dX10_putNumberAboveOne_35 : decode cX10_putNumberAboveOne 35 = .ok (.i2c, 1) := by decide +kernel
theorem dX10_putNumberAboveOne_36 : decode cX10_putNumberAboveOne 36 = .ok (.invokevirtual 19, 3) := by decide +kernel
theorem dX10_putNumberAboveOne_39 : decode cX10_putNumberAboveOne 39 = .ok (.pop, 1) := by decide +kernel
theorem dX10_putNumberAboveOne_40 : decode cX10_putNumberAboveOne 40 = .ok (.return_, 1) := by decide +kernel
theorem dX10_wipe_0 : decode cX10_wipe 0 = .ok (.aload_n 0, 1) := by decide +kernel
theorem dX10_wipe_1 : decode cX10_wipe 1 = .ok (.iconst 0, 1) := by decide +kernel
theorem dX10_wipe_2 : decode cX10_wipe 2 = .ok (.putfield 15, 3) := by decide +kernel
theorem dX10_wipe_5 : decode cX10_wipe 5 = .ok (.return_, 1) := by decide +kernel
theorem dX10_signAt_0 : decode cX10_signAt 0 = .ok (.iload_n 1, 1) := by decide +kernel
theorem dX10_signAt_1 : decode cX10_signAt 1 = .ok (.ifCond .lt 20, 3) := by decide +kernel
theorem dX10_signAt_4 : decode cX10_signAt 4 = .ok (.iload_n 1, 1) := by decide +kernel
theorem dX10_signAt_5 : decode cX10_signAt 5 = .ok (.aload_n 0, 1) := by decide +kernel
theorem dX10_signAt_6 : decode cX10_signAt 6 = .ok (.getfield 15, 3) := by decide +kernel
theorem dX10_signAt_9 : decode cX10_signAt 9 = .ok (.if_icmp .ge 12, 3) := by decide +kernel
theorem dX10_signAt_12 : decode cX10_signAt 12 = .ok (.aload_n 0, 1) := by decide +kernel
theorem dX10_signAt_13 : decode cX10_signAt 13 = .ok (.getfield 9, 3) := by decide +kernel
theorem dX10_signAt_16 : decode cX10_signAt 16 = .ok (.iload_n 1, 1) := by decide +kernel
theorem dX10_signAt_17 : decode cX10_signAt 17 = .ok (.caload, 1) := by decide +kernel
theorem dX10_signAt_18 : decode cX10_signAt 18 = .ok (.goto 4, 3) := by decide +kernel
theorem dX10_signAt_21 : decode cX10_signAt 21 = .ok (.iconst 0, 1) := by decide +kernel
theorem dX10_signAt_22 : decode cX10_signAt 22 = .ok (.ireturn, 1) := by decide +kernel
theorem dX10_endOfMoves_0 : decode cX10_endOfMoves 0 = .ok (.iload_n 1, 1) := by decide +kernel
theorem dX10_endOfMoves_1 : decode cX10_endOfMoves 1 = .ok (.istore_n 2, 1) := by decide +kernel
theorem dX10_endOfMoves_2 : decode cX10_endOfMoves 2 = .ok (.iload_n 2, 1) := by decide +kernel
theorem dX10_endOfMoves_3 : decode cX10_endOfMoves 3 = .ok (.aload_n 0, 1) := by decide +kernel
theorem dX10_endOfMoves_4 : decode cX10_endOfMoves 4 = .ok (.getfield 15, 3) := by decide +kernel
theorem dX10_endOfMoves_7 : decode cX10_endOfMoves 7 = .ok (.if_icmp .ge 21, 3) := by decide +kernel
theorem dX10_endOfMoves_10 : decode cX10_endOfMoves 10 = .ok (.aload_n 0, 1) := by decide +kernel
theorem dX10_endOfMoves_11 : decode cX10_endOfMoves 11 = .ok (.iload_n 2, 1) := by decide +kernel
theorem dX10_endOfMoves_12 : decode cX10_endOfMoves 12 = .ok (.invokevirtual 23, 3) := by decide +kernel
theorem dX10_endOfMoves_15 : decode cX10_endOfMoves 15 = .ok (.invokestatic 27, 3) := by decide +kernel
theorem dX10_endOfMoves_18 : decode cX10_endOfMoves 18 = .ok (.iconst (-1), 1) := by decide +kernel
theorem dX10_endOfMoves_19 : decode cX10_endOfMoves 19 = .ok (.if_icmp .eq 9, 3) := by decide +kernel
theorem dX10_endOfMoves_22 : decode cX10_endOfMoves 22 = .ok (.iinc 2 1, 3) := by decide +kernel
theorem dX10_endOfMoves_25 : decode cX10_endOfMoves 25 = .ok (.goto (-23), 3) := by decide +kernel
theorem dX10_endOfMoves_28 : decode cX10_endOfMoves 28 = .ok (.iload_n 2, 1) := by decide +kernel
theorem dX10_endOfMoves_29 : decode cX10_endOfMoves 29 = .ok (.ireturn, 1) := by decide +kernel
theorem dX11_init_0 : decode cX11_init 0 = .ok (.aload_n 0, 1) := by decide +kernel
theorem dX11_init_1 : decode cX11_init 1 = .ok (.invokespecial 3, 3) := by decide +kernel
theorem dX11_init_4 : decode cX11_init 4 = .ok (.aload_n 0, 1) := by decide +kernel
theorem dX11_init_5 : decode cX11_init 5 = .ok (.bipush 81, 2) := by decide +kernel
theorem dX11_init_7 : decode cX11_init 7 = .ok (.newarray .int, 2) := by decide +kernel
theorem dX11_init_9 : decode cX11_init 9 = .ok (.putfield 9, 3) := by decide +kernel
theorem dX11_init_12 : decode cX11_init 12 = .ok (.aload_n 0, 1) := by decide +kernel
theorem dX11_init_13 : decode cX11_init 13 = .ok (.bipush 81, 2) := by decide +kernel
theorem dX11_init_15 : decode cX11_init 15 = .ok (.newarray .int, 2) := by decide +kernel
theorem dX11_init_17 : decode cX11_init 17 = .ok (.putfield 15, 3) := by decide +kernel
theorem dX11_init_20 : decode cX11_init 20 = .ok (.aload_n 0, 1) := by decide +kernel
theorem dX11_init_21 : decode cX11_init 21 = .ok (.sipush 325, 3) := by decide +kernel
theorem dX11_init_24 : decode cX11_init 24 = .ok (.newarray .int, 2) := by decide +kernel
theorem dX11_init_26 : decode cX11_init 26 = .ok (.putfield 18, 3) := by decide +kernel
theorem dX11_init_29 : decode cX11_init 29 = .ok (.aload_n 0, 1) := by decide +kernel
theorem dX11_init_30 : decode cX11_init 30 = .ok (.bipush 81, 2) := by decide +kernel
theorem dX11_init_32 : decode cX11_init 32 = .ok (.newarray .int, 2) := by decide +kernel
theorem dX11_init_34 : decode cX11_init 34 = .ok (.putfield 21, 3) := by decide +kernel
theorem dX11_init_37 : decode cX11_init 37 = .ok (.aload_n 0, 1) := by decide +kernel
theorem dX11_init_38 : decode cX11_init 38 = .ok (.bipush 81, 2) := by decide +kernel
theorem dX11_init_40 : decode cX11_init 40 = .ok (.newarray .int, 2) := by decide +kernel
theorem dX11_init_42 : decode cX11_init 42 = .ok (.putfield 24, 3) := by decide +kernel
theorem dX11_init_45 : decode cX11_init 45 = .ok (.return_, 1) := by decide +kernel
theorem dX11_setPlainTolls_0 : decode cX11_setPlainTolls 0 = .ok (.iconst 0, 1) := by decide +kernel
theorem dX11_setPlainTolls_1 : decode cX11_setPlainTolls 1 = .ok (.istore_n 2, 1) := by decide +kernel
theorem dX11_setPlainTolls_2 : decode cX11_setPlainTolls 2 = .ok (.iload_n 2, 1) := by decide +kernel
theorem dX11_setPlainTolls_3 : decode cX11_setPlainTolls 3 = .ok (.bipush 81, 2) := by decide +kernel
theorem dX11_setPlainTolls_5 : decode cX11_setPlainTolls 5 = .ok (.if_icmp .ge 31, 3) := by decide +kernel
theorem dX11_setPlainTolls_8 : decode cX11_setPlainTolls 8 = .ok (.aload_n 0, 1) := by decide +kernel
theorem dX11_setPlainTolls_9 : decode cX11_setPlainTolls 9 = .ok (.getfield 9, 3) := by decide +kernel
theorem dX11_setPlainTolls_12 : decode cX11_setPlainTolls 12 = .ok (.iload_n 2, 1) := by decide +kernel
theorem dX11_setPlainTolls_13 : decode cX11_setPlainTolls 13 = .ok (.aload_n 1, 1) := by decide +kernel
theorem dX11_setPlainTolls_14 : decode cX11_setPlainTolls 14 = .ok (.getfield 27, 3) := by decide +kernel
theorem dX11_setPlainTolls_17 : decode cX11_setPlainTolls 17 = .ok (.iload_n 2, 1) := by decide +kernel
theorem dX11_setPlainTolls_18 : decode cX11_setPlainTolls 18 = .ok (.invokevirtual 33, 3) := by decide +kernel
theorem dX11_setPlainTolls_21 : decode cX11_setPlainTolls 21 = .ok (.ifCond .eq 7, 3) := by decide +kernel
theorem dX11_setPlainTolls_24 : decode cX11_setPlainTolls 24 = .ok (.iconst 1, 1) := by decide +kernel
theorem dX11_setPlainTolls_25 : decode cX11_setPlainTolls 25 = .ok (.goto 4, 3) := by decide +kernel
theorem dX11_setPlainTolls_28 : decode cX11_setPlainTolls 28 = .ok (.iconst (-1), 1) := by decide +kernel
theorem dX11_setPlainTolls_29 : decode cX11_setPlainTolls 29 = .ok (.iastore, 1) := by decide +kernel
theorem dX11_setPlainTolls_30 : decode cX11_setPlainTolls 30 = .ok (.iinc 2 1, 3) := by decide +kernel
theorem dX11_setPlainTolls_33 : decode cX11_setPlainTolls 33 = .ok (.goto (-31), 3) := by decide +kernel
theorem dX11_setPlainTolls_36 : decode cX11_setPlainTolls 36 = .ok (.return_, 1) := by decide +kernel
theorem dX11_setFogTolls_0 : decode cX11_setFogTolls 0 = .ok (.iconst 0, 1) := by decide +kernel
theorem dX11_setFogTolls_1 : decode cX11_setFogTolls 1 = .ok (.istore_n 2, 1) := by decide +kernel
theorem dX11_setFogTolls_2 : decode cX11_setFogTolls 2 = .ok (.iload_n 2, 1) := by decide +kernel
theorem dX11_setFogTolls_3 : decode cX11_setFogTolls 3 = .ok (.bipush 81, 2) := by decide +kernel
theorem dX11_setFogTolls_5 : decode cX11_setFogTolls 5 = .ok (.if_icmp .ge 45, 3) := by decide +kernel
theorem dX11_setFogTolls_8 : decode cX11_setFogTolls 8 = .ok (.aload_n 1, 1) := by decide +kernel
theorem dX11_setFogTolls_9 : decode cX11_setFogTolls 9 = .ok (.iload_n 2, 1) := by decide +kernel
theorem dX11_setFogTolls_10 : decode cX11_setFogTolls 10 = .ok (.invokevirtual 39, 3) := by decide +kernel
theorem dX11_setFogTolls_13 : decode cX11_setFogTolls 13 = .ok (.ifCond .eq 7, 3) := by decide +kernel
theorem dX11_setFogTolls_16 : decode cX11_setFogTolls 16 = .ok (.iconst 2, 1) := by decide +kernel
theorem dX11_setFogTolls_17 : decode cX11_setFogTolls 17 = .ok (.goto 4, 3) := by decide +kernel
theorem dX11_setFogTolls_20 : decode cX11_setFogTolls 20 = .ok (.iconst 1, 1) := by decide +kernel
theorem dX11_setFogTolls_21 : decode cX11_setFogTolls 21 = .ok (.istore_n 3, 1) := by decide +kernel
theorem dX11_setFogTolls_22 : decode cX11_setFogTolls 22 = .ok (.aload_n 0, 1) := by decide +kernel
theorem dX11_setFogTolls_23 : decode cX11_setFogTolls 23 = .ok (.getfield 9, 3) := by decide +kernel
theorem dX11_setFogTolls_26 : decode cX11_setFogTolls 26 = .ok (.iload_n 2, 1) := by decide +kernel
theorem dX11_setFogTolls_27 : decode cX11_setFogTolls 27 = .ok (.aload_n 1, 1) := by decide +kernel
theorem dX11_setFogTolls_28 : decode cX11_setFogTolls 28 = .ok (.getfield 27, 3) := by decide +kernel
theorem dX11_setFogTolls_31 : decode cX11_setFogTolls 31 = .ok (.iload_n 2, 1) := by decide +kernel
theorem dX11_setFogTolls_32 : decode cX11_setFogTolls 32 = .ok (.invokevirtual 33, 3) := by decide +kernel
theorem dX11_setFogTolls_35 : decode cX11_setFogTolls 35 = .ok (.ifCond .eq 7, 3) := by decide +kernel
theorem dX11_setFogTolls_38 : decode cX11_setFogTolls 38 = .ok (.iload_n 3, 1) := by decide +kernel
theorem dX11_setFogTolls_39 : decode cX11_setFogTolls 39 = .ok (.goto 4, 3) := by decide +kernel
theorem dX11_setFogTolls_42 : decode cX11_setFogTolls 42 = .ok (.iconst (-1), 1) := by decide +kernel
theorem dX11_setFogTolls_43 : decode cX11_setFogTolls 43 = .ok (.iastore, 1) := by decide +kernel
theorem dX11_setFogTolls_44 : decode cX11_setFogTolls 44 = .ok (.iinc 2 1, 3) := by decide +kernel
theorem dX11_setFogTolls_47 : decode cX11_setFogTolls 47 = .ok (.goto (-45), 3) := by decide +kernel
theorem dX11_setFogTolls_50 : decode cX11_setFogTolls 50 = .ok (.return_, 1) := by decide +kernel
theorem dX11_setReedTolls_0 : decode cX11_setReedTolls 0 = .ok (.iconst 0, 1) := by decide +kernel
theorem dX11_setReedTolls_1 : decode cX11_setReedTolls 1 = .ok (.istore_n 2, 1) := by decide +kernel
theorem dX11_setReedTolls_2 : decode cX11_setReedTolls 2 = .ok (.iload_n 2, 1) := by decide +kernel
theorem dX11_setReedTolls_3 : decode cX11_setReedTolls 3 = .ok (.bipush 81, 2) := by decide +kernel
theorem dX11_setReedTolls_5 : decode cX11_setReedTolls 5 = .ok (.if_icmp .ge 23, 3) := by decide +kernel
theorem dX11_setReedTolls_8 : decode cX11_setReedTolls 8 = .ok (.aload_n 0, 1) := by decide +kernel
theorem dX11_setReedTolls_9 : decode cX11_setReedTolls 9 = .ok (.getfield 9, 3) := by decide +kernel
theorem dX11_setReedTolls_12 : decode cX11_setReedTolls 12 = .ok (.iload_n 2, 1) := by decide +kernel
theorem dX11_setReedTolls_13 : decode cX11_setReedTolls 13 = .ok (.aload_n 1, 1) := by decide +kernel
theorem dX11_setReedTolls_14 : decode cX11_setReedTolls 14 = .ok (.getfield 27, 3) := by decide +kernel
theorem dX11_setReedTolls_17 : decode cX11_setReedTolls 17 = .ok (.iload_n 2, 1) := by decide +kernel
theorem dX11_setReedTolls_18 : decode cX11_setReedTolls 18 = .ok (.invokevirtual 42, 3) := by decide +kernel
theorem dX11_setReedTolls_21 : decode cX11_setReedTolls 21 = .ok (.iastore, 1) := by decide +kernel
theorem dX11_setReedTolls_22 : decode cX11_setReedTolls 22 = .ok (.iinc 2 1, 3) := by decide +kernel
theorem dX11_setReedTolls_25 : decode cX11_setReedTolls 25 = .ok (.goto (-23), 3) := by decide +kernel
theorem dX11_setReedTolls_28 : decode cX11_setReedTolls 28 = .ok (.return_, 1) := by decide +kernel
theorem dX11_begin_0 : decode cX11_begin 0 = .ok (.iconst 0, 1) := by decide +kernel
theorem dX11_begin_1 : decode cX11_begin 1 = .ok (.istore_n 3, 1) := by decide +kernel
theorem dX11_begin_2 : decode cX11_begin 2 = .ok (.iload_n 3, 1) := by decide +kernel
theorem dX11_begin_3 : decode cX11_begin 3 = .ok (.bipush 81, 2) := by decide +kernel
theorem dX11_begin_5 : decode cX11_begin 5 = .ok (.if_icmp .ge 14, 3) := by decide +kernel
theorem dX11_begin_8 : decode cX11_begin 8 = .ok (.aload_n 1, 1) := by decide +kernel
theorem dX11_begin_9 : decode cX11_begin 9 = .ok (.iload_n 3, 1) := by decide +kernel
theorem dX11_begin_10 : decode cX11_begin 10 = .ok (.ldc 46, 2) := by decide +kernel
theorem dX11_begin_12 : decode cX11_begin 12 = .ok (.iastore, 1) := by decide +kernel
theorem dX11_begin_13 : decode cX11_begin 13 = .ok (.iinc 3 1, 3) := by decide +kernel
theorem dX11_begin_16 : decode cX11_begin 16 = .ok (.goto (-14), 3) := by decide +kernel
theorem dX11_begin_19 : decode cX11_begin 19 = .ok (.aload_n 0, 1) := by decide +kernel
theorem dX11_begin_20 : decode cX11_begin 20 = .ok (.getfield 9, 3) := by decide +kernel
theorem dX11_begin_23 : decode cX11_begin 23 = .ok (.iload_n 2, 1) := by decide +kernel
theorem dX11_begin_24 : decode cX11_begin 24 = .ok (.iaload, 1) := by decide +kernel
theorem dX11_begin_25 : decode cX11_begin 25 = .ok (.iconst (-1), 1) := by decide +kernel
theorem dX11_begin_26 : decode cX11_begin 26 = .ok (.if_icmp .eq 7, 3) := by decide +kernel
theorem dX11_begin_29 : decode cX11_begin 29 = .ok (.aload_n 1, 1) := by decide +kernel
theorem dX11_begin_30 : decode cX11_begin 30 = .ok (.iload_n 2, 1) := by decide +kernel
theorem dX11_begin_31 : decode cX11_begin 31 = .ok (.iconst 0, 1) := by decide +kernel
theorem dX11_begin_32 : decode cX11_begin 32 = .ok (.iastore, 1) := by decide +kernel
theorem dX11_begin_33 : decode cX11_begin 33 = .ok (.return_, 1) := by decide +kernel
theorem dX11_searchByBreadth_0 : decode cX11_searchByBreadth 0 = .ok (.aload_n 0, 1) := by decide +kernel
theorem dX11_searchByBreadth_1 : decode cX11_searchByBreadth 1 = .ok (.aload_n 0, 1) := by decide +kernel
theorem dX11_searchByBreadth_2 : decode cX11_searchByBreadth 2 = .ok (.getfield 21, 3) := by decide +kernel
theorem dX11_searchByBreadth_5 : decode cX11_searchByBreadth 5 = .ok (.iload_n 1, 1) := by decide +kernel
theorem dX11_searchByBreadth_6 : decode cX11_searchByBreadth 6 = .ok (.invokevirtual 47, 3) := by decide +kernel
theorem dX11_searchByBreadth_9 : decode cX11_searchByBreadth 9 = .ok (.aload_n 0, 1) := by decide +kernel
theorem dX11_searchByBreadth_10 : decode cX11_searchByBreadth 10 = .ok (.getfield 15, 3) := by decide +kernel
theorem dX11_searchByBreadth_13 : decode cX11_searchByBreadth 13 = .ok (.iconst 0, 1) := by decide +kernel
theorem dX11_searchByBreadth_14 : decode cX11_searchByBreadth 14 = .ok (.iload_n 1, 1) := by decide +kernel
theorem dX11_searchByBreadth_15 : decode cX11_searchByBreadth 15 = .ok (.iastore, 1) := by decide +kernel
theorem dX11_searchByBreadth_16 : decode cX11_searchByBreadth 16 = .ok (.aload_n 0, 1) := by decide +kernel
theorem dX11_searchByBreadth_17 : decode cX11_searchByBreadth 17 = .ok (.getfield 21, 3) := by decide +kernel
theorem dX11_searchByBreadth_20 : decode cX11_searchByBreadth 20 = .ok (.iload_n 1, 1) := by decide +kernel
theorem dX11_searchByBreadth_21 : decode cX11_searchByBreadth 21 = .ok (.iaload, 1) := by decide +kernel
theorem dX11_searchByBreadth_22 : decode cX11_searchByBreadth 22 = .ok (.ifCond .ne 7, 3) := by decide +kernel
theorem dX11_searchByBreadth_25 : decode cX11_searchByBreadth 25 = .ok (.iconst 1, 1) := by decide +kernel
theorem dX11_searchByBreadth_26 : decode cX11_searchByBreadth 26 = .ok (.goto 4, 3) := by decide +kernel
theorem dX11_searchByBreadth_29 : decode cX11_searchByBreadth 29 = .ok (.iconst 0, 1) := by decide +kernel
theorem dX11_searchByBreadth_30 : decode cX11_searchByBreadth 30 = .ok (.istore_n 2, 1) := by decide +kernel
theorem dX11_searchByBreadth_31 : decode cX11_searchByBreadth 31 = .ok (.iconst 0, 1) := by decide +kernel
theorem dX11_searchByBreadth_32 : decode cX11_searchByBreadth 32 = .ok (.istore_n 3, 1) := by decide +kernel
theorem dX11_searchByBreadth_33 : decode cX11_searchByBreadth 33 = .ok (.iload_n 3, 1) := by decide +kernel
theorem dX11_searchByBreadth_34 : decode cX11_searchByBreadth 34 = .ok (.bipush 81, 2) := by decide +kernel
theorem dX11_searchByBreadth_36 : decode cX11_searchByBreadth 36 = .ok (.if_icmp .ge 26, 3) := by decide +kernel
theorem dX11_searchByBreadth_39 : decode cX11_searchByBreadth 39 = .ok (.iload_n 3, 1) := by decide +kernel
theorem dX11_searchByBreadth_40 : decode cX11_searchByBreadth 40 = .ok (.iload_n 2, 1) := by decide +kernel
theorem dX11_searchByBreadth_41 : decode cX11_searchByBreadth 41 = .ok (.if_icmp .ge 21, 3) := by decide +kernel
theorem dX11_searchByBreadth_44 : decode cX11_searchByBreadth 44 = .ok (.aload_n 0, 1) := by decide +kernel
theorem dX11_searchByBreadth_45 : decode cX11_searchByBreadth 45 = .ok (.aload_n 0, 1) := by decide +kernel
theorem dX11_searchByBreadth_46 : decode cX11_searchByBreadth 46 = .ok (.getfield 15, 3) := by decide +kernel
theorem dX11_searchByBreadth_49 : decode cX11_searchByBreadth 49 = .ok (.iload_n 3, 1) := by decide +kernel
theorem dX11_searchByBreadth_50 : decode cX11_searchByBreadth 50 = .ok (.iaload, 1) := by decide +kernel
theorem dX11_searchByBreadth_51 : decode cX11_searchByBreadth 51 = .ok (.iload_n 2, 1) := by decide +kernel
theorem dX11_searchByBreadth_52 : decode cX11_searchByBreadth 52 = .ok (.invokevirtual 51, 3) := by decide +kernel
theorem dX11_searchByBreadth_55 : decode cX11_searchByBreadth 55 = .ok (.istore_n 2, 1) := by decide +kernel
theorem dX11_searchByBreadth_56 : decode cX11_searchByBreadth 56 = .ok (.iinc 3 1, 3) := by decide +kernel
theorem dX11_searchByBreadth_59 : decode cX11_searchByBreadth 59 = .ok (.goto (-26), 3) := by decide +kernel
theorem dX11_searchByBreadth_62 : decode cX11_searchByBreadth 62 = .ok (.return_, 1) := by decide +kernel
theorem dX11_spread_0 : decode cX11_spread 0 = .ok (.iload_n 2, 1) := by decide +kernel
theorem dX11_spread_1 : decode cX11_spread 1 = .ok (.istore_n 3, 1) := by decide +kernel
theorem dX11_spread_2 : decode cX11_spread 2 = .ok (.iconst 0, 1) := by decide +kernel
theorem dX11_spread_3 : decode cX11_spread 3 = .ok (.istore 4, 2) := by decide +kernel
theorem dX11_spread_5 : decode cX11_spread 5 = .ok (.iload 4, 2) := by decide +kernel
theorem dX11_spread_7 : decode cX11_spread 7 = .ok (.iconst 4, 1) := by decide +kernel
theorem dX11_spread_8 : decode cX11_spread 8 = .ok (.if_icmp .ge 78, 3) := by decide +kernel
theorem dX11_spread_11 : decode cX11_spread 11 = .ok (.iload_n 1, 1) := by decide +kernel
theorem dX11_spread_12 : decode cX11_spread 12 = .ok (.iload 4, 2) := by decide +kernel
theorem dX11_spread_14 : decode cX11_spread 14 = .ok (.invokestatic 55, 3) := by decide +kernel
theorem dX11_spread_17 : decode cX11_spread 17 = .ok (.istore 5, 2) := by decide +kernel
theorem dX11_spread_19 : decode cX11_spread 19 = .ok (.iload 5, 2) := by decide +kernel
theorem dX11_spread_21 : decode cX11_spread 21 = .ok (.iconst (-1), 1) := by decide +kernel
theorem dX11_spread_22 : decode cX11_spread 22 = .ok (.if_icmp .eq 58, 3) := by decide +kernel
theorem dX11_spread_25 : decode cX11_spread 25 = .ok (.aload_n 0, 1) := by decide +kernel
theorem dX11_spread_26 : decode cX11_spread 26 = .ok (.getfield 9, 3) := by decide +kernel
theorem dX11_spread_29 : decode cX11_spread 29 = .ok (.iload 5, 2) := by decide +kernel
theorem dX11_spread_31 : decode cX11_spread 31 = .ok (.iaload, 1) := by decide +kernel
theorem dX11_spread_32 : decode cX11_spread 32 = .ok (.iconst (-1), 1) := by decide +kernel
theorem dX11_spread_33 : decode cX11_spread 33 = .ok (.if_icmp .eq 47, 3) := by decide +kernel
theorem dX11_spread_36 : decode cX11_spread 36 = .ok (.aload_n 0, 1) := by decide +kernel
theorem dX11_spread_37 : decode cX11_spread 37 = .ok (.getfield 21, 3) := by decide +kernel
theorem dX11_spread_40 : decode cX11_spread 40 = .ok (.iload 5, 2) := by decide +kernel
theorem dX11_spread_42 : decode cX11_spread 42 = .ok (.iaload, 1) := by decide +kernel
theorem dX11_spread_43 : decode cX11_spread 43 = .ok (.ldc 46, 2) := by decide +kernel
theorem dX11_spread_45 : decode cX11_spread 45 = .ok (.if_icmp .ne 35, 3) := by decide +kernel
theorem dX11_spread_48 : decode cX11_spread 48 = .ok (.iload_n 3, 1) := by decide +kernel
theorem dX11_spread_49 : decode cX11_spread 49 = .ok (.bipush 81, 2) := by decide +kernel
theorem dX11_spread_51 : decode cX11_spread 51 = .ok (.if_icmp .ge 29, 3) := by decide +kernel
theorem dX11_spread_54 : decode cX11_spread 54 = .ok (.aload_n 0, 1) := by decide +kernel
theorem dX11_spread_55 : decode cX11_spread 55 = .ok (.getfield 21, 3) := by decide +kernel
theorem dX11_spread_58 : decode cX11_spread 58 = .ok (.iload 5, 2) := by decide +kernel
theorem dX11_spread_60 : decode cX11_spread 60 = .ok (.aload_n 0, 1) := by decide +kernel
theorem dX11_spread_61 : decode cX11_spread 61 = .ok (.getfield 21, 3) := by decide +kernel
theorem dX11_spread_64 : decode cX11_spread 64 = .ok (.iload_n 1, 1) := by decide +kernel
theorem dX11_spread_65 : decode cX11_spread 65 = .ok (.iaload, 1) := by decide +kernel
theorem dX11_spread_66 : decode cX11_spread 66 = .ok (.iconst 1, 1) := by decide +kernel
theorem dX11_spread_67 : decode cX11_spread 67 = .ok (.iadd, 1) := by decide +kernel
theorem dX11_spread_68 : decode cX11_spread 68 = .ok (.iastore, 1) := by decide +kernel
theorem dX11_spread_69 : decode cX11_spread 69 = .ok (.aload_n 0, 1) := by decide +kernel
theorem dX11_spread_70 : decode cX11_spread 70 = .ok (.getfield 15, 3) := by decide +kernel
theorem dX11_spread_73 : decode cX11_spread 73 = .ok (.iload_n 3, 1) := by decide +kernel
theorem dX11_spread_74 : decode cX11_spread 74 = .ok (.iload 5, 2) := by decide +kernel
theorem dX11_spread_76 : decode cX11_spread 76 = .ok (.iastore, 1) := by decide +kernel
theorem dX11_spread_77 : decode cX11_spread 77 = .ok (.iinc 3 1, 3) := by decide +kernel
theorem dX11_spread_80 : decode cX11_spread 80 = .ok (.iinc 4 1, 3) := by decide +kernel
theorem dX11_spread_83 : decode cX11_spread 83 = .ok (.goto (-78), 3) := by decide +kernel
theorem dX11_spread_86 : decode cX11_spread 86 = .ok (.iload_n 3, 1) := by decide +kernel
theorem dX11_spread_87 : decode cX11_spread 87 = .ok (.ireturn, 1) := by decide +kernel
theorem dX11_searchByHeap_0 : decode cX11_searchByHeap 0 = .ok (.aload_n 0, 1) := by decide +kernel
theorem dX11_searchByHeap_1 : decode cX11_searchByHeap 1 = .ok (.aload_n 0, 1) := by decide +kernel
theorem dX11_searchByHeap_2 : decode cX11_searchByHeap 2 = .ok (.getfield 21, 3) := by decide +kernel
theorem dX11_searchByHeap_5 : decode cX11_searchByHeap 5 = .ok (.iload_n 1, 1) := by decide +kernel
theorem dX11_searchByHeap_6 : decode cX11_searchByHeap 6 = .ok (.invokevirtual 47, 3) := by decide +kernel
theorem dX11_searchByHeap_9 : decode cX11_searchByHeap 9 = .ok (.aload_n 0, 1) := by decide +kernel
theorem dX11_searchByHeap_10 : decode cX11_searchByHeap 10 = .ok (.iconst 0, 1) := by decide +kernel
theorem dX11_searchByHeap_11 : decode cX11_searchByHeap 11 = .ok (.putfield 58, 3) := by decide +kernel
theorem dX11_searchByHeap_14 : decode cX11_searchByHeap 14 = .ok (.aload_n 0, 1) := by decide +kernel
theorem dX11_searchByHeap_15 : decode cX11_searchByHeap 15 = .ok (.getfield 21, 3) := by decide +kernel
theorem dX11_searchByHeap_18 : decode cX11_searchByHeap 18 = .ok (.iload_n 1, 1) := by decide +kernel
theorem dX11_searchByHeap_19 : decode cX11_searchByHeap 19 = .ok (.iaload, 1) := by decide +kernel
theorem dX11_searchByHeap_20 : decode cX11_searchByHeap 20 = .ok (.ifCond .ne 8, 3) := by decide +kernel
theorem dX11_searchByHeap_23 : decode cX11_searchByHeap 23 = .ok (.aload_n 0, 1) := by decide +kernel
theorem dX11_searchByHeap_24 : decode cX11_searchByHeap 24 = .ok (.iload_n 1, 1) := by decide +kernel
theorem dX11_searchByHeap_25 : decode cX11_searchByHeap 25 = .ok (.invokevirtual 62, 3) := by decide +kernel
theorem dX11_searchByHeap_28 : decode cX11_searchByHeap 28 = .ok (.iconst 0, 1) := by decide +kernel
theorem dX11_searchByHeap_29 : decode cX11_searchByHeap 29 = .ok (.istore_n 2, 1) := by decide +kernel
theorem dX11_searchByHeap_30 : decode cX11_searchByHeap 30 = .ok (.iload_n 2, 1) := by decide +kernel
theorem dX11_searchByHeap_31 : decode cX11_searchByHeap 31 = .ok (.sipush 325, 3) := by decide +kernel
theorem dX11_searchByHeap_34 : decode cX11_searchByHeap 34 = .ok (.if_icmp .ge 47, 3) := by decide +kernel
theorem dX11_searchByHeap_37 : decode cX11_searchByHeap 37 = .ok (.aload_n 0, 1) := by decide +kernel
theorem dX11_searchByHeap_38 : decode cX11_searchByHeap 38 = .ok (.getfield 58, 3) := by decide +kernel
theorem dX11_searchByHeap_41 : decode cX11_searchByHeap 41 = .ok (.ifCond .le 40, 3) := by decide +kernel
theorem dX11_searchByHeap_44 : decode cX11_searchByHeap 44 = .ok (.aload_n 0, 1) := by decide +kernel
theorem dX11_searchByHeap_45 : decode cX11_searchByHeap 45 = .ok (.invokevirtual 66, 3) := by decide +kernel
theorem dX11_searchByHeap_48 : decode cX11_searchByHeap 48 = .ok (.istore_n 3, 1) := by decide +kernel
theorem dX11_searchByHeap_49 : decode cX11_searchByHeap 49 = .ok (.iload_n 3, 1) := by decide +kernel
theorem dX11_searchByHeap_50 : decode cX11_searchByHeap 50 = .ok (.bipush 81, 2) := by decide +kernel
theorem dX11_searchByHeap_52 : decode cX11_searchByHeap 52 = .ok (.irem, 1) := by decide +kernel
theorem dX11_searchByHeap_53 : decode cX11_searchByHeap 53 = .ok (.istore 4, 2) := by decide +kernel
theorem dX11_searchByHeap_55 : decode cX11_searchByHeap 55 = .ok (.iload_n 3, 1) := by decide +kernel
theorem dX11_searchByHeap_56 : decode cX11_searchByHeap 56 = .ok (.bipush 81, 2) := by decide +kernel
theorem dX11_searchByHeap_58 : decode cX11_searchByHeap 58 = .ok (.idiv, 1) := by decide +kernel
theorem dX11_searchByHeap_59 : decode cX11_searchByHeap 59 = .ok (.aload_n 0, 1) := by decide +kernel
theorem dX11_searchByHeap_60 : decode cX11_searchByHeap 60 = .ok (.getfield 21, 3) := by decide +kernel
theorem dX11_searchByHeap_63 : decode cX11_searchByHeap 63 = .ok (.iload 4, 2) := by decide +kernel
theorem dX11_searchByHeap_65 : decode cX11_searchByHeap 65 = .ok (.iaload, 1) := by decide +kernel
theorem dX11_searchByHeap_66 : decode cX11_searchByHeap 66 = .ok (.if_icmp .ne 9, 3) := by decide +kernel
theorem dX11_searchByHeap_69 : decode cX11_searchByHeap 69 = .ok (.aload_n 0, 1) := by decide +kernel
theorem dX11_searchByHeap_70 : decode cX11_searchByHeap 70 = .ok (.iload 4, 2) := by decide +kernel
theorem dX11_searchByHeap_72 : decode cX11_searchByHeap 72 = .ok (.invokevirtual 70, 3) := by decide +kernel
theorem dX11_searchByHeap_75 : decode cX11_searchByHeap 75 = .ok (.iinc 2 1, 3) := by decide +kernel
theorem dX11_searchByHeap_78 : decode cX11_searchByHeap 78 = .ok (.goto (-48), 3) := by decide +kernel
theorem dX11_searchByHeap_81 : decode cX11_searchByHeap 81 = .ok (.return_, 1) := by decide +kernel
theorem dX11_relax_0 : decode cX11_relax 0 = .ok (.iconst 0, 1) := by decide +kernel
theorem dX11_relax_1 : decode cX11_relax 1 = .ok (.istore_n 2, 1) := by decide +kernel
theorem dX11_relax_2 : decode cX11_relax 2 = .ok (.iload_n 2, 1) := by decide +kernel
theorem dX11_relax_3 : decode cX11_relax 3 = .ok (.iconst 4, 1) := by decide +kernel
theorem dX11_relax_4 : decode cX11_relax 4 = .ok (.if_icmp .ge 86, 3) := by decide +kernel
theorem dX11_relax_7 : decode cX11_relax 7 = .ok (.iload_n 1, 1) := by decide +kernel
theorem dX11_relax_8 : decode cX11_relax 8 = .ok (.iload_n 2, 1) := by decide +kernel
theorem dX11_relax_9 : decode cX11_relax 9 = .ok (.invokestatic 55, 3) := by decide +kernel
theorem dX11_relax_12 : decode cX11_relax 12 = .ok (.istore_n 3, 1) := by decide +kernel
theorem dX11_relax_13 : decode cX11_relax 13 = .ok (.iload_n 3, 1) := by decide +kernel
theorem dX11_relax_14 : decode cX11_relax 14 = .ok (.iconst (-1), 1) := by decide +kernel
theorem dX11_relax_15 : decode cX11_relax 15 = .ok (.if_icmp .eq 69, 3) := by decide +kernel
theorem dX11_relax_18 : decode cX11_relax 18 = .ok (.aload_n 0, 1) := by decide +kernel
theorem dX11_relax_19 : decode cX11_relax 19 = .ok (.getfield 9, 3) := by decide +kernel
theorem dX11_relax_22 : decode cX11_relax 22 = .ok (.iload_n 3, 1) := by decide +kernel
theorem dX11_relax_23 : decode cX11_relax 23 = .ok (.iaload, 1) := by decide +kernel
theorem dX11_relax_24 : decode cX11_relax 24 = .ok (.iconst (-1), 1) := by decide +kernel
theorem dX11_relax_25 : decode cX11_relax 25 = .ok (.if_icmp .eq 59, 3) := by decide +kernel
theorem dX11_relax_28 : decode cX11_relax 28 = .ok (.aload_n 0, 1) := by decide +kernel
theorem dX11_relax_29 : decode cX11_relax 29 = .ok (.getfield 21, 3) := by decide +kernel
theorem dX11_relax_32 : decode cX11_relax 32 = .ok (.iload_n 1, 1) := by decide +kernel
theorem dX11_relax_33 : decode cX11_relax 33 = .ok (.iaload, 1) := by decide +kernel
theorem dX11_relax_34 : decode cX11_relax 34 = .ok (.aload_n 0, 1) := by decide +kernel
theorem dX11_relax_35 : decode cX11_relax 35 = .ok (.getfield 9, 3) := by decide +kernel
theorem dX11_relax_38 : decode cX11_relax 38 = .ok (.iload_n 3, 1) := by decide +kernel
theorem dX11_relax_39 : decode cX11_relax 39 = .ok (.iaload, 1) := by decide +kernel
theorem dX11_relax_40 : decode cX11_relax 40 = .ok (.iadd, 1) := by decide +kernel
theorem dX11_relax_41 : decode cX11_relax 41 = .ok (.aload_n 0, 1) := by decide +kernel
theorem dX11_relax_42 : decode cX11_relax 42 = .ok (.getfield 21, 3) := by decide +kernel
theorem dX11_relax_45 : decode cX11_relax 45 = .ok (.iload_n 3, 1) := by decide +kernel
theorem dX11_relax_46 : decode cX11_relax 46 = .ok (.iaload, 1) := by decide +kernel
theorem dX11_relax_47 : decode cX11_relax 47 = .ok (.if_icmp .ge 37, 3) := by decide +kernel
theorem dX11_relax_50 : decode cX11_relax 50 = .ok (.aload_n 0, 1) := by decide +kernel
theorem dX11_relax_51 : decode cX11_relax 51 = .ok (.getfield 21, 3) := by decide +kernel
theorem dX11_relax_54 : decode cX11_relax 54 = .ok (.iload_n 3, 1) := by decide +kernel
theorem dX11_relax_55 : decode cX11_relax 55 = .ok (.aload_n 0, 1) := by decide +kernel
theorem dX11_relax_56 : decode cX11_relax 56 = .ok (.getfield 21, 3) := by decide +kernel
theorem dX11_relax_59 : decode cX11_relax 59 = .ok (.iload_n 1, 1) := by decide +kernel
theorem dX11_relax_60 : decode cX11_relax 60 = .ok (.iaload, 1) := by decide +kernel
theorem dX11_relax_61 : decode cX11_relax 61 = .ok (.aload_n 0, 1) := by decide +kernel
theorem dX11_relax_62 : decode cX11_relax 62 = .ok (.getfield 9, 3) := by decide +kernel
theorem dX11_relax_65 : decode cX11_relax 65 = .ok (.iload_n 3, 1) := by decide +kernel
theorem dX11_relax_66 : decode cX11_relax 66 = .ok (.iaload, 1) := by decide +kernel
theorem dX11_relax_67 : decode cX11_relax 67 = .ok (.iadd, 1) := by decide +kernel
theorem dX11_relax_68 : decode cX11_relax 68 = .ok (.iastore, 1) := by decide +kernel
theorem dX11_relax_69 : decode cX11_relax 69 = .ok (.aload_n 0, 1) := by decide +kernel
theorem dX11_relax_70 : decode cX11_relax 70 = .ok (.aload_n 0, 1) := by decide +kernel
theorem dX11_relax_71 : decode cX11_relax 71 = .ok (.getfield 21, 3) := by decide +kernel
theorem dX11_relax_74 : decode cX11_relax 74 = .ok (.iload_n 3, 1) := by decide +kernel
theorem dX11_relax_75 : decode cX11_relax 75 = .ok (.iaload, 1) := by decide +kernel
theorem dX11_relax_76 : decode cX11_relax 76 = .ok (.bipush 81, 2) := by decide +kernel
theorem dX11_relax_78 : decode cX11_relax 78 = .ok (.imul, 1) := by decide +kernel
theorem dX11_relax_79 : decode cX11_relax 79 = .ok (.iload_n 3, 1) := by decide +kernel
theorem dX11_relax_80 : decode cX11_relax 80 = .ok (.iadd, 1) := by decide +kernel
theorem dX11_relax_81 : decode cX11_relax 81 = .ok (.invokevirtual 62, 3) := by decide +kernel
theorem dX11_relax_84 : decode cX11_relax 84 = .ok (.iinc 2 1, 3) := by decide +kernel
theorem dX11_relax_87 : decode cX11_relax 87 = .ok (.goto (-85), 3) := by decide +kernel
theorem dX11_relax_90 : decode cX11_relax 90 = .ok (.return_, 1) := by decide +kernel
theorem dX11_pushEntry_0 : decode cX11_pushEntry 0 = .ok (.aload_n 0, 1) := by decide +kernel
theorem dX11_pushEntry_1 : decode cX11_pushEntry 1 = .ok (.getfield 58, 3) := by decide +kernel
theorem dX11_pushEntry_4 : decode cX11_pushEntry 4 = .ok (.sipush 325, 3) := by decide +kernel
theorem dX11_pushEntry_7 : decode cX11_pushEntry 7 = .ok (.if_icmp .lt 4, 3) := by decide +kernel
theorem dX11_pushEntry_10 : decode cX11_pushEntry 10 = .ok (.return_, 1) := by decide +kernel
theorem dX11_pushEntry_11 : decode cX11_pushEntry 11 = .ok (.aload_n 0, 1) := by decide +kernel
theorem dX11_pushEntry_12 : decode cX11_pushEntry 12 = .ok (.getfield 58, 3) := by decide +kernel
theorem dX11_pushEntry_15 : decode cX11_pushEntry 15 = .ok (.istore_n 2, 1) := by decide +kernel
theorem dX11_pushEntry_16 : decode cX11_pushEntry 16 = .ok (.aload_n 0, 1) := by decide +kernel
theorem dX11_pushEntry_17 : decode cX11_pushEntry 17 = .ok (.dup, 1) := by decide +kernel
theorem dX11_pushEntry_18 : decode cX11_pushEntry 18 = .ok (.getfield 58, 3) := by decide +kernel
theorem dX11_pushEntry_21 : decode cX11_pushEntry 21 = .ok (.iconst 1, 1) := by decide +kernel
theorem dX11_pushEntry_22 : decode cX11_pushEntry 22 = .ok (.iadd, 1) := by decide +kernel
theorem dX11_pushEntry_23 : decode cX11_pushEntry 23 = .ok (.putfield 58, 3) := by decide +kernel
theorem dX11_pushEntry_26 : decode cX11_pushEntry 26 = .ok (.iload_n 2, 1) := by decide +kernel
theorem dX11_pushEntry_27 : decode cX11_pushEntry 27 = .ok (.ifCond .le 42, 3) := by decide +kernel
theorem dX11_pushEntry_30 : decode cX11_pushEntry 30 = .ok (.aload_n 0, 1) := by decide +kernel
theorem dX11_pushEntry_31 : decode cX11_pushEntry 31 = .ok (.getfield 18, 3) := by decide +kernel
theorem dX11_pushEntry_34 : decode cX11_pushEntry 34 = .ok (.iload_n 2, 1) := by decide +kernel
theorem dX11_pushEntry_35 : decode cX11_pushEntry 35 = .ok (.iconst 1, 1) := by decide +kernel
theorem dX11_pushEntry_36 : decode cX11_pushEntry 36 = .ok (.isub, 1) := by decide +kernel
theorem dX11_pushEntry_37 : decode cX11_pushEntry 37 = .ok (.iconst 2, 1) := by decide +kernel
theorem dX11_pushEntry_38 : decode cX11_pushEntry 38 = .ok (.idiv, 1) := by decide +kernel
theorem dX11_pushEntry_39 : decode cX11_pushEntry 39 = .ok (.iaload, 1) := by decide +kernel
theorem dX11_pushEntry_40 : decode cX11_pushEntry 40 = .ok (.iload_n 1, 1) := by decide +kernel
theorem dX11_pushEntry_41 : decode cX11_pushEntry 41 = .ok (.if_icmp .le 28, 3) := by decide +kernel
theorem dX11_pushEntry_44 : decode cX11_pushEntry 44 = .ok (.aload_n 0, 1) := by decide +kernel
theorem dX11_pushEntry_45 : decode cX11_pushEntry 45 = .ok (.getfield 18, 3) := by decide +kernel
theorem dX11_pushEntry_48 : decode cX11_pushEntry 48 = .ok (.iload_n 2, 1) := by decide +kernel
theorem dX11_pushEntry_49 : decode cX11_pushEntry 49 = .ok (.aload_n 0, 1) := by decide +kernel
theorem dX11_pushEntry_50 : decode cX11_pushEntry 50 = .ok (.getfield 18, 3) := by decide +kernel
theorem dX11_pushEntry_53 : decode cX11_pushEntry 53 = .ok (.iload_n 2, 1) := by decide +kernel
theorem dX11_pushEntry_54 : decode cX11_pushEntry 54 = .ok (.iconst 1, 1) := by decide +kernel
theorem dX11_pushEntry_55 : decode cX11_pushEntry 55 = .ok (.isub, 1) := by decide +kernel
theorem dX11_pushEntry_56 : decode cX11_pushEntry 56 = .ok (.iconst 2, 1) := by decide +kernel
theorem dX11_pushEntry_57 : decode cX11_pushEntry 57 = .ok (.idiv, 1) := by decide +kernel
theorem dX11_pushEntry_58 : decode cX11_pushEntry 58 = .ok (.iaload, 1) := by decide +kernel
theorem dX11_pushEntry_59 : decode cX11_pushEntry 59 = .ok (.iastore, 1) := by decide +kernel
theorem dX11_pushEntry_60 : decode cX11_pushEntry 60 = .ok (.iload_n 2, 1) := by decide +kernel
theorem dX11_pushEntry_61 : decode cX11_pushEntry 61 = .ok (.iconst 1, 1) := by decide +kernel
theorem dX11_pushEntry_62 : decode cX11_pushEntry 62 = .ok (.isub, 1) := by decide +kernel
theorem dX11_pushEntry_63 : decode cX11_pushEntry 63 = .ok (.iconst 2, 1) := by decide +kernel
theorem dX11_pushEntry_64 : decode cX11_pushEntry 64 = .ok (.idiv, 1) := by decide +kernel
theorem dX11_pushEntry_65 : decode cX11_pushEntry 65 = .ok (.istore_n 2, 1) := by decide +kernel
theorem dX11_pushEntry_66 : decode cX11_pushEntry 66 = .ok (.goto (-40), 3) := by decide +kernel
theorem dX11_pushEntry_69 : decode cX11_pushEntry 69 = .ok (.aload_n 0, 1) := by decide +kernel
theorem dX11_pushEntry_70 : decode cX11_pushEntry 70 = .ok (.getfield 18, 3) := by decide +kernel
theorem dX11_pushEntry_73 : decode cX11_pushEntry 73 = .ok (.iload_n 2, 1) := by decide +kernel
theorem dX11_pushEntry_74 : decode cX11_pushEntry 74 = .ok (.iload_n 1, 1) := by decide +kernel
theorem dX11_pushEntry_75 : decode cX11_pushEntry 75 = .ok (.iastore, 1) := by decide +kernel
theorem dX11_pushEntry_76 : decode cX11_pushEntry 76 = .ok (.return_, 1) := by decide +kernel
theorem dX11_popEntry_0 : decode cX11_popEntry 0 = .ok (.aload_n 0, 1) := by decide +kernel
theorem dX11_popEntry_1 : decode cX11_popEntry 1 = .ok (.getfield 18, 3) := by decide +kernel
theorem dX11_popEntry_4 : decode cX11_popEntry 4 = .ok (.iconst 0, 1) := by decide +kernel
theorem dX11_popEntry_5 : decode cX11_popEntry 5 = .ok (.iaload, 1) := by decide +kernel
theorem dX11_popEntry_6 : decode cX11_popEntry 6 = .ok (.istore_n 1, 1) := by decide +kernel
theorem dX11_popEntry_7 : decode cX11_popEntry 7 = .ok (.aload_n 0, 1) := by decide +kernel
theorem dX11_popEntry_8 : decode cX11_popEntry 8 = .ok (.dup, 1) := by decide +kernel
theorem dX11_popEntry_9 : decode cX11_popEntry 9 = .ok (.getfield 58, 3) := by decide +kernel
theorem dX11_popEntry_12 : decode cX11_popEntry 12 = .ok (.iconst 1, 1) := by decide +kernel
theorem dX11_popEntry_13 : decode cX11_popEntry 13 = .ok (.isub, 1) := by decide +kernel
theorem dX11_popEntry_14 : decode cX11_popEntry 14 = .ok (.putfield 58, 3) := by decide +kernel
theorem dX11_popEntry_17 : decode cX11_popEntry 17 = .ok (.aload_n 0, 1) := by decide +kernel
theorem dX11_popEntry_18 : decode cX11_popEntry 18 = .ok (.getfield 18, 3) := by decide +kernel
theorem dX11_popEntry_21 : decode cX11_popEntry 21 = .ok (.aload_n 0, 1) := by decide +kernel
theorem dX11_popEntry_22 : decode cX11_popEntry 22 = .ok (.getfield 58, 3) := by decide +kernel
theorem dX11_popEntry_25 : decode cX11_popEntry 25 = .ok (.iaload, 1) := by decide +kernel
theorem dX11_popEntry_26 : decode cX11_popEntry 26 = .ok (.istore_n 2, 1) := by decide +kernel
theorem dX11_popEntry_27 : decode cX11_popEntry 27 = .ok (.iconst 0, 1) := by decide +kernel
theorem dX11_popEntry_28 : decode cX11_popEntry 28 = .ok (.istore_n 3, 1) := by decide +kernel
theorem dX11_popEntry_29 : decode cX11_popEntry 29 = .ok (.aload_n 0, 1) := by decide +kernel
theorem dX11_popEntry_30 : decode cX11_popEntry 30 = .ok (.iload_n 3, 1) := by decide +kernel
theorem dX11_popEntry_31 : decode cX11_popEntry 31 = .ok (.invokevirtual 73, 3) := by decide +kernel
theorem dX11_popEntry_34 : decode cX11_popEntry 34 = .ok (.istore 4, 2) := by decide +kernel
theorem dX11_popEntry_36 : decode cX11_popEntry 36 = .ok (.iload 4, 2) := by decide +kernel
theorem dX11_popEntry_38 : decode cX11_popEntry 38 = .ok (.aload_n 0, 1) := by decide +kernel
theorem dX11_popEntry_39 : decode cX11_popEntry 39 = .ok (.getfield 58, 3) := by decide +kernel
theorem dX11_popEntry_42 : decode cX11_popEntry 42 = .ok (.if_icmp .ge 40, 3) := by decide +kernel
theorem dX11_popEntry_45 : decode cX11_popEntry 45 = .ok (.aload_n 0, 1) := by decide +kernel
theorem dX11_popEntry_46 : decode cX11_popEntry 46 = .ok (.getfield 18, 3) := by decide +kernel
theorem dX11_popEntry_49 : decode cX11_popEntry 49 = .ok (.iload 4, 2) := by decide +kernel
theorem dX11_popEntry_51 : decode cX11_popEntry 51 = .ok (.iaload, 1) := by decide +kernel
theorem dX11_popEntry_52 : decode cX11_popEntry 52 = .ok (.iload_n 2, 1) := by decide +kernel
theorem dX11_popEntry_53 : decode cX11_popEntry 53 = .ok (.if_icmp .ge 29, 3) := by decide +kernel
theorem dX11_popEntry_56 : decode cX11_popEntry 56 = .ok (.aload_n 0, 1) := by decide +kernel
theorem dX11_popEntry_57 : decode cX11_popEntry 57 = .ok (.getfield 18, 3) := by decide +kernel
theorem dX11_popEntry_60 : decode cX11_popEntry 60 = .ok (.iload_n 3, 1) := by decide +kernel
theorem dX11_popEntry_61 : decode cX11_popEntry 61 = .ok (.aload_n 0, 1) := by decide +kernel
theorem dX11_popEntry_62 : decode cX11_popEntry 62 = .ok (.getfield 18, 3) := by decide +kernel
theorem dX11_popEntry_65 : decode cX11_popEntry 65 = .ok (.iload 4, 2) := by decide +kernel
theorem dX11_popEntry_67 : decode cX11_popEntry 67 = .ok (.iaload, 1) := by decide +kernel
theorem dX11_popEntry_68 : decode cX11_popEntry 68 = .ok (.iastore, 1) := by decide +kernel
theorem dX11_popEntry_69 : decode cX11_popEntry 69 = .ok (.iload 4, 2) := by decide +kernel
theorem dX11_popEntry_71 : decode cX11_popEntry 71 = .ok (.istore_n 3, 1) := by decide +kernel
theorem dX11_popEntry_72 : decode cX11_popEntry 72 = .ok (.aload_n 0, 1) := by decide +kernel
theorem dX11_popEntry_73 : decode cX11_popEntry 73 = .ok (.iload_n 3, 1) := by decide +kernel
theorem dX11_popEntry_74 : decode cX11_popEntry 74 = .ok (.invokevirtual 73, 3) := by decide +kernel
theorem dX11_popEntry_77 : decode cX11_popEntry 77 = .ok (.istore 4, 2) := by decide +kernel
theorem dX11_popEntry_79 : decode cX11_popEntry 79 = .ok (.goto (-43), 3) := by decide +kernel
theorem dX11_popEntry_82 : decode cX11_popEntry 82 = .ok (.aload_n 0, 1) := by decide +kernel
theorem dX11_popEntry_83 : decode cX11_popEntry 83 = .ok (.getfield 18, 3) := by decide +kernel
theorem dX11_popEntry_86 : decode cX11_popEntry 86 = .ok (.iload_n 3, 1) := by decide +kernel
theorem dX11_popEntry_87 : decode cX11_popEntry 87 = .ok (.iload_n 2, 1) := by decide +kernel
theorem dX11_popEntry_88 : decode cX11_popEntry 88 = .ok (.iastore, 1) := by decide +kernel
theorem dX11_popEntry_89 : decode cX11_popEntry 89 = .ok (.iload_n 1, 1) := by decide +kernel
theorem dX11_popEntry_90 : decode cX11_popEntry 90 = .ok (.ireturn, 1) := by decide +kernel
theorem dX11_lesserChild_0 : decode cX11_lesserChild 0 = .ok (.iconst 2, 1) := by decide +kernel
theorem dX11_lesserChild_1 : decode cX11_lesserChild 1 = .ok (.iload_n 1, 1) := by decide +kernel
theorem dX11_lesserChild_2 : decode cX11_lesserChild 2 = .ok (.imul, 1) := by decide +kernel
theorem dX11_lesserChild_3 : decode cX11_lesserChild 3 = .ok (.iconst 1, 1) := by decide +kernel
theorem dX11_lesserChild_4 : decode cX11_lesserChild 4 = .ok (.iadd, 1) := by decide +kernel
theorem dX11_lesserChild_5 : decode cX11_lesserChild 5 = .ok (.istore_n 2, 1) := by decide +kernel
theorem dX11_lesserChild_6 : decode cX11_lesserChild 6 = .ok (.iload_n 2, 1) := by decide +kernel
theorem dX11_lesserChild_7 : decode cX11_lesserChild 7 = .ok (.iconst 1, 1) := by decide +kernel
theorem dX11_lesserChild_8 : decode cX11_lesserChild 8 = .ok (.iadd, 1) := by decide +kernel
theorem dX11_lesserChild_9 : decode cX11_lesserChild 9 = .ok (.aload_n 0, 1) := by decide +kernel
theorem dX11_lesserChild_10 : decode cX11_lesserChild 10 = .ok (.getfield 58, 3) := by decide +kernel
theorem dX11_lesserChild_13 : decode cX11_lesserChild 13 = .ok (.if_icmp .ge 26, 3) := by decide +kernel
theorem dX11_lesserChild_16 : decode cX11_lesserChild 16 = .ok (.aload_n 0, 1) := by decide +kernel
theorem dX11_lesserChild_17 : decode cX11_lesserChild 17 = .ok (.getfield 18, 3) := by decide +kernel
theorem dX11_lesserChild_20 : decode cX11_lesserChild 20 = .ok (.iload_n 2, 1) := by decide +kernel
theorem dX11_lesserChild_21 : decode cX11_lesserChild 21 = .ok (.iconst 1, 1) := by decide +kernel
theorem dX11_lesserChild_22 : decode cX11_lesserChild 22 = .ok (.iadd, 1) := by decide +kernel
theorem dX11_lesserChild_23 : decode cX11_lesserChild 23 = .ok (.iaload, 1) := by decide +kernel
theorem dX11_lesserChild_24 : decode cX11_lesserChild 24 = .ok (.aload_n 0, 1) := by decide +kernel
theorem dX11_lesserChild_25 : decode cX11_lesserChild 25 = .ok (.getfield 18, 3) := by decide +kernel
theorem dX11_lesserChild_28 : decode cX11_lesserChild 28 = .ok (.iload_n 2, 1) := by decide +kernel
theorem dX11_lesserChild_29 : decode cX11_lesserChild 29 = .ok (.iaload, 1) := by decide +kernel
theorem dX11_lesserChild_30 : decode cX11_lesserChild 30 = .ok (.if_icmp .ge 9, 3) := by decide +kernel
theorem dX11_lesserChild_33 : decode cX11_lesserChild 33 = .ok (.iload_n 2, 1) := by decide +kernel
theorem dX11_lesserChild_34 : decode cX11_lesserChild 34 = .ok (.iconst 1, 1) := by decide +kernel
theorem dX11_lesserChild_35 : decode cX11_lesserChild 35 = .ok (.iadd, 1) := by decide +kernel
theorem dX11_lesserChild_36 : decode cX11_lesserChild 36 = .ok (.goto 4, 3) := by decide +kernel
theorem dX11_lesserChild_39 : decode cX11_lesserChild 39 = .ok (.iload_n 2, 1) := by decide +kernel
theorem dX11_lesserChild_40 : decode cX11_lesserChild 40 = .ok (.ireturn, 1) := by decide +kernel
theorem dX11_searchByRounds_0 : decode cX11_searchByRounds 0 = .ok (.aload_n 0, 1) := by decide +kernel
theorem dX11_searchByRounds_1 : decode cX11_searchByRounds 1 = .ok (.aload_n 0, 1) := by decide +kernel
theorem dX11_searchByRounds_2 : decode cX11_searchByRounds 2 = .ok (.getfield 24, 3) := by decide +kernel
theorem dX11_searchByRounds_5 : decode cX11_searchByRounds 5 = .ok (.iload_n 1, 1) := by decide +kernel
theorem dX11_searchByRounds_6 : decode cX11_searchByRounds 6 = .ok (.invokevirtual 47, 3) := by decide +kernel
theorem dX11_searchByRounds_9 : decode cX11_searchByRounds 9 = .ok (.iconst 1, 1) := by decide +kernel
theorem dX11_searchByRounds_10 : decode cX11_searchByRounds 10 = .ok (.istore_n 2, 1) := by decide +kernel
theorem dX11_searchByRounds_11 : decode cX11_searchByRounds 11 = .ok (.iconst 0, 1) := by decide +kernel
theorem dX11_searchByRounds_12 : decode cX11_searchByRounds 12 = .ok (.istore_n 3, 1) := by decide +kernel
theorem dX11_searchByRounds_13 : decode cX11_searchByRounds 13 = .ok (.iload_n 3, 1) := by decide +kernel
theorem dX11_searchByRounds_14 : decode cX11_searchByRounds 14 = .ok (.bipush 81, 2) := by decide +kernel
