theorem dX0_init_0 : decode cX0_init 0 = .ok (.aload_n 0, 1) := by decide +kernel
theorem dX0_init_1 : decode cX0_init 1 = .ok (.invokespecial 3, 3) := by decide +kernel
theorem dX0_init_4 : decode cX0_init 4 = .ok (.aload_n 0, 1) := by decide +kernel
theorem dX0_init_5 : decode cX0_init 5 = .ok (.bipush 80, 2) := by decide +kernel
theorem dX0_init_7 : decode cX0_init 7 = .ok (.newarray .int, 2) := by decide +kernel
theorem dX0_init_9 : decode cX0_init 9 = .ok (.putfield 9, 3) := by decide +kernel
theorem dX0_init_12 : decode cX0_init 12 = .ok (.aload_n 0, 1) := by decide +kernel
theorem dX0_init_13 : decode cX0_init 13 = .ok (.bipush 80, 2) := by decide +kernel
theorem dX0_init_15 : decode cX0_init 15 = .ok (.newarray .int, 2) := by decide +kernel
theorem dX0_init_17 : decode cX0_init 17 = .ok (.putfield 15, 3) := by decide +kernel
theorem dX0_init_20 : decode cX0_init 20 = .ok (.aload_n 0, 1) := by decide +kernel
theorem dX0_init_21 : decode cX0_init 21 = .ok (.iconst 4, 1) := by decide +kernel
theorem dX0_init_22 : decode cX0_init 22 = .ok (.newarray .int, 2) := by decide +kernel
theorem dX0_init_24 : decode cX0_init 24 = .ok (.putfield 18, 3) := by decide +kernel
theorem dX0_init_27 : decode cX0_init 27 = .ok (.aload_n 0, 1) := by decide +kernel
theorem dX0_init_28 : decode cX0_init 28 = .ok (.iconst 4, 1) := by decide +kernel
theorem dX0_init_29 : decode cX0_init 29 = .ok (.newarray .int, 2) := by decide +kernel
theorem dX0_init_31 : decode cX0_init 31 = .ok (.putfield 21, 3) := by decide +kernel
theorem dX0_init_34 : decode cX0_init 34 = .ok (.aload_n 0, 1) := by decide +kernel
theorem dX0_init_35 : decode cX0_init 35 = .ok (.aload_n 1, 1) := by decide +kernel
theorem dX0_init_36 : decode cX0_init 36 = .ok (.putfield 24, 3) := by decide +kernel
theorem dX0_init_39 : decode cX0_init 39 = .ok (.return_, 1) := by decide +kernel
theorem dX0_mostTaken_0 : decode cX0_mostTaken 0 = .ok (.aload_n 0, 1) := by decide +kernel
theorem dX0_mostTaken_1 : decode cX0_mostTaken 1 = .ok (.aload_n 1, 1) := by decide +kernel
theorem dX0_mostTaken_2 : decode cX0_mostTaken 2 = .ok (.invokevirtual 28, 3) := by decide +kernel
theorem dX0_mostTaken_5 : decode cX0_mostTaken 5 = .ok (.iconst 0, 1) := by decide +kernel
theorem dX0_mostTaken_6 : decode cX0_mostTaken 6 = .ok (.istore_n 2, 1) := by decide +kernel
theorem dX0_mostTaken_7 : decode cX0_mostTaken 7 = .ok (.iconst 0, 1) := by decide +kernel
theorem dX0_mostTaken_8 : decode cX0_mostTaken 8 = .ok (.istore_n 3, 1) := by decide +kernel
theorem dX0_mostTaken_9 : decode cX0_mostTaken 9 = .ok (.iload_n 3, 1) := by decide +kernel
theorem dX0_mostTaken_10 : decode cX0_mostTaken 10 = .ok (.aload_n 1, 1) := by decide +kernel
theorem dX0_mostTaken_11 : decode cX0_mostTaken 11 = .ok (.getfield 32, 3) := by decide +kernel
theorem dX0_mostTaken_14 : decode cX0_mostTaken 14 = .ok (.if_icmp .ge 47, 3) := by decide +kernel
theorem dX0_mostTaken_17 : decode cX0_mostTaken 17 = .ok (.iinc 2 1, 3) := by decide +kernel
theorem dX0_mostTaken_20 : decode cX0_mostTaken 20 = .ok (.aload_n 0, 1) := by decide +kernel
theorem dX0_mostTaken_21 : decode cX0_mostTaken 21 = .ok (.aload_n 1, 1) := by decide +kernel
theorem dX0_mostTaken_22 : decode cX0_mostTaken 22 = .ok (.getfield 38, 3) := by decide +kernel
theorem dX0_mostTaken_25 : decode cX0_mostTaken 25 = .ok (.iload_n 3, 1) := by decide +kernel
theorem dX0_mostTaken_26 : decode cX0_mostTaken 26 = .ok (.iaload, 1) := by decide +kernel
theorem dX0_mostTaken_27 : decode cX0_mostTaken 27 = .ok (.iload_n 3, 1) := by decide +kernel
theorem dX0_mostTaken_28 : decode cX0_mostTaken 28 = .ok (.invokevirtual 41, 3) := by decide +kernel
theorem dX0_mostTaken_31 : decode cX0_mostTaken 31 = .ok (.aload_n 0, 1) := by decide +kernel
theorem dX0_mostTaken_32 : decode cX0_mostTaken 32 = .ok (.getfield 24, 3) := by decide +kernel
theorem dX0_mostTaken_35 : decode cX0_mostTaken 35 = .ok (.getfield 45, 3) := by decide +kernel
theorem dX0_mostTaken_38 : decode cX0_mostTaken 38 = .ok (.if_icmp .le 17, 3) := by decide +kernel
theorem dX0_mostTaken_41 : decode cX0_mostTaken 41 = .ok (.aload_n 0, 1) := by decide +kernel
theorem dX0_mostTaken_42 : decode cX0_mostTaken 42 = .ok (.getfield 9, 3) := by decide +kernel
theorem dX0_mostTaken_45 : decode cX0_mostTaken 45 = .ok (.aload_n 0, 1) := by decide +kernel
theorem dX0_mostTaken_46 : decode cX0_mostTaken 46 = .ok (.iload_n 3, 1) := by decide +kernel
theorem dX0_mostTaken_47 : decode cX0_mostTaken 47 = .ok (.invokevirtual 50, 3) := by decide +kernel
theorem dX0_mostTaken_50 : decode cX0_mostTaken 50 = .ok (.iconst (-1), 1) := by decide +kernel
theorem dX0_mostTaken_51 : decode cX0_mostTaken 51 = .ok (.iastore, 1) := by decide +kernel
theorem dX0_mostTaken_52 : decode cX0_mostTaken 52 = .ok (.iinc 2 (-1), 3) := by decide +kernel
theorem dX0_mostTaken_55 : decode cX0_mostTaken 55 = .ok (.iinc 3 1, 3) := by decide +kernel
theorem dX0_mostTaken_58 : decode cX0_mostTaken 58 = .ok (.goto (-49), 3) := by decide +kernel
theorem dX0_mostTaken_61 : decode cX0_mostTaken 61 = .ok (.iload_n 2, 1) := by decide +kernel
theorem dX0_mostTaken_62 : decode cX0_mostTaken 62 = .ok (.ireturn, 1) := by decide +kernel
theorem dX0_pairLettersWithTicks_0 : decode cX0_pairLettersWithTicks 0 = .ok (.iconst 0, 1) := by decide +kernel
theorem dX0_pairLettersWithTicks_1 : decode cX0_pairLettersWithTicks 1 = .ok (.istore_n 2, 1) := by decide +kernel
theorem dX0_pairLettersWithTicks_2 : decode cX0_pairLettersWithTicks 2 = .ok (.iload_n 2, 1) := by decide +kernel
theorem dX0_pairLettersWithTicks_3 : decode cX0_pairLettersWithTicks 3 = .ok (.iconst 4, 1) := by decide +kernel
theorem dX0_pairLettersWithTicks_4 : decode cX0_pairLettersWithTicks 4 = .ok (.if_icmp .ge 16, 3) := by decide +kernel
theorem dX0_pairLettersWithTicks_7 : decode cX0_pairLettersWithTicks 7 = .ok (.aload_n 0, 1) := by decide +kernel
theorem dX0_pairLettersWithTicks_8 : decode cX0_pairLettersWithTicks 8 = .ok (.getfield 18, 3) := by decide +kernel
theorem dX0_pairLettersWithTicks_11 : decode cX0_pairLettersWithTicks 11 = .ok (.iload_n 2, 1) := by decide +kernel
theorem dX0_pairLettersWithTicks_12 : decode cX0_pairLettersWithTicks 12 = .ok (.iconst (-1), 1) := by decide +kernel
theorem dX0_pairLettersWithTicks_13 : decode cX0_pairLettersWithTicks 13 = .ok (.iastore, 1) := by decide +kernel
theorem dX0_pairLettersWithTicks_14 : decode cX0_pairLettersWithTicks 14 = .ok (.iinc 2 1, 3) := by decide +kernel
theorem dX0_pairLettersWithTicks_17 : decode cX0_pairLettersWithTicks 17 = .ok (.goto (-15), 3) := by decide +kernel
theorem dX0_pairLettersWithTicks_20 : decode cX0_pairLettersWithTicks 20 = .ok (.iconst 0, 1) := by decide +kernel
theorem dX0_pairLettersWithTicks_21 : decode cX0_pairLettersWithTicks 21 = .ok (.istore_n 2, 1) := by decide +kernel
theorem dX0_pairLettersWithTicks_22 : decode cX0_pairLettersWithTicks 22 = .ok (.aload_n 1, 1) := by decide +kernel
theorem dX0_pairLettersWithTicks_23 : decode cX0_pairLettersWithTicks 23 = .ok (.getfield 32, 3) := by decide +kernel
theorem dX0_pairLettersWithTicks_26 : decode cX0_pairLettersWithTicks 26 = .ok (.istore_n 3, 1) := by decide +kernel
theorem dX0_pairLettersWithTicks_27 : decode cX0_pairLettersWithTicks 27 = .ok (.iconst 0, 1) := by decide +kernel
theorem dX0_pairLettersWithTicks_28 : decode cX0_pairLettersWithTicks 28 = .ok (.istore 4, 2) := by decide +kernel
theorem dX0_pairLettersWithTicks_30 : decode cX0_pairLettersWithTicks 30 = .ok (.iload 4, 2) := by decide +kernel
theorem dX0_pairLettersWithTicks_32 : decode cX0_pairLettersWithTicks 32 = .ok (.sipush 440, 3) := by decide +kernel
theorem dX0_pairLettersWithTicks_35 : decode cX0_pairLettersWithTicks 35 = .ok (.if_icmp .ge 76, 3) := by decide +kernel
theorem dX0_pairLettersWithTicks_38 : decode cX0_pairLettersWithTicks 38 = .ok (.iload_n 3, 1) := by decide +kernel
theorem dX0_pairLettersWithTicks_39 : decode cX0_pairLettersWithTicks 39 = .ok (.ifCond .le 72, 3) := by decide +kernel
theorem dX0_pairLettersWithTicks_42 : decode cX0_pairLettersWithTicks 42 = .ok (.iload_n 2, 1) := by decide +kernel
theorem dX0_pairLettersWithTicks_43 : decode cX0_pairLettersWithTicks 43 = .ok (.aload_n 1, 1) := by decide +kernel
theorem dX0_pairLettersWithTicks_44 : decode cX0_pairLettersWithTicks 44 = .ok (.getfield 32, 3) := by decide +kernel
theorem dX0_pairLettersWithTicks_47 : decode cX0_pairLettersWithTicks 47 = .ok (.if_icmp .ge 49, 3) := by decide +kernel
theorem dX0_pairLettersWithTicks_50 : decode cX0_pairLettersWithTicks 50 = .ok (.aload_n 1, 1) := by decide +kernel
theorem dX0_pairLettersWithTicks_51 : decode cX0_pairLettersWithTicks 51 = .ok (.getfield 38, 3) := by decide +kernel
theorem dX0_pairLettersWithTicks_54 : decode cX0_pairLettersWithTicks 54 = .ok (.iload_n 2, 1) := by decide +kernel
theorem dX0_pairLettersWithTicks_55 : decode cX0_pairLettersWithTicks 55 = .ok (.iaload, 1) := by decide +kernel
theorem dX0_pairLettersWithTicks_56 : decode cX0_pairLettersWithTicks 56 = .ok (.iload 4, 2) := by decide +kernel
theorem dX0_pairLettersWithTicks_58 : decode cX0_pairLettersWithTicks 58 = .ok (.if_icmp .gt 38, 3) := by decide +kernel
theorem dX0_pairLettersWithTicks_61 : decode cX0_pairLettersWithTicks 61 = .ok (.aload_n 0, 1) := by decide +kernel
theorem dX0_pairLettersWithTicks_62 : decode cX0_pairLettersWithTicks 62 = .ok (.getfield 15, 3) := by decide +kernel
theorem dX0_pairLettersWithTicks_65 : decode cX0_pairLettersWithTicks 65 = .ok (.iload_n 2, 1) := by decide +kernel
theorem dX0_pairLettersWithTicks_66 : decode cX0_pairLettersWithTicks 66 = .ok (.aload_n 0, 1) := by decide +kernel
theorem dX0_pairLettersWithTicks_67 : decode cX0_pairLettersWithTicks 67 = .ok (.getfield 18, 3) := by decide +kernel
theorem dX0_pairLettersWithTicks_70 : decode cX0_pairLettersWithTicks 70 = .ok (.aload_n 1, 1) := by decide +kernel
theorem dX0_pairLettersWithTicks_71 : decode cX0_pairLettersWithTicks 71 = .ok (.getfield 54, 3) := by decide +kernel
theorem dX0_pairLettersWithTicks_74 : decode cX0_pairLettersWithTicks 74 = .ok (.iload_n 2, 1) := by decide +kernel
theorem dX0_pairLettersWithTicks_75 : decode cX0_pairLettersWithTicks 75 = .ok (.iaload, 1) := by decide +kernel
theorem dX0_pairLettersWithTicks_76 : decode cX0_pairLettersWithTicks 76 = .ok (.iaload, 1) := by decide +kernel
theorem dX0_pairLettersWithTicks_77 : decode cX0_pairLettersWithTicks 77 = .ok (.iastore, 1) := by decide +kernel
theorem dX0_pairLettersWithTicks_78 : decode cX0_pairLettersWithTicks 78 = .ok (.aload_n 0, 1) := by decide +kernel
theorem dX0_pairLettersWithTicks_79 : decode cX0_pairLettersWithTicks 79 = .ok (.getfield 18, 3) := by decide +kernel
theorem dX0_pairLettersWithTicks_82 : decode cX0_pairLettersWithTicks 82 = .ok (.aload_n 1, 1) := by decide +kernel
theorem dX0_pairLettersWithTicks_83 : decode cX0_pairLettersWithTicks 83 = .ok (.getfield 54, 3) := by decide +kernel
theorem dX0_pairLettersWithTicks_86 : decode cX0_pairLettersWithTicks 86 = .ok (.iload_n 2, 1) := by decide +kernel
theorem dX0_pairLettersWithTicks_87 : decode cX0_pairLettersWithTicks 87 = .ok (.iaload, 1) := by decide +kernel
theorem dX0_pairLettersWithTicks_88 : decode cX0_pairLettersWithTicks 88 = .ok (.iload_n 2, 1) := by decide +kernel
theorem dX0_pairLettersWithTicks_89 : decode cX0_pairLettersWithTicks 89 = .ok (.iastore, 1) := by decide +kernel
theorem dX0_pairLettersWithTicks_90 : decode cX0_pairLettersWithTicks 90 = .ok (.iinc 2 1, 3) := by decide +kernel
theorem dX0_pairLettersWithTicks_93 : decode cX0_pairLettersWithTicks 93 = .ok (.goto (-51), 3) := by decide +kernel
theorem dX0_pairLettersWithTicks_96 : decode cX0_pairLettersWithTicks 96 = .ok (.iload_n 3, 1) := by decide +kernel
theorem dX0_pairLettersWithTicks_97 : decode cX0_pairLettersWithTicks 97 = .ok (.aload_n 0, 1) := by decide +kernel
theorem dX0_pairLettersWithTicks_98 : decode cX0_pairLettersWithTicks 98 = .ok (.iload 4, 2) := by decide +kernel
theorem dX0_pairLettersWithTicks_100 : decode cX0_pairLettersWithTicks 100 = .ok (.invokevirtual 57, 3) := by decide +kernel
theorem dX0_pairLettersWithTicks_103 : decode cX0_pairLettersWithTicks 103 = .ok (.isub, 1) := by decide +kernel
theorem dX0_pairLettersWithTicks_104 : decode cX0_pairLettersWithTicks 104 = .ok (.istore_n 3, 1) := by decide +kernel
theorem dX0_pairLettersWithTicks_105 : decode cX0_pairLettersWithTicks 105 = .ok (.iinc 4 1, 3) := by decide +kernel
theorem dX0_pairLettersWithTicks_108 : decode cX0_pairLettersWithTicks 108 = .ok (.goto (-78), 3) := by decide +kernel
theorem dX0_pairLettersWithTicks_111 : decode cX0_pairLettersWithTicks 111 = .ok (.return_, 1) := by decide +kernel
theorem dX0_popYoungest_0 : decode cX0_popYoungest 0 = .ok (.iconst 0, 1) := by decide +kernel
theorem dX0_popYoungest_1 : decode cX0_popYoungest 1 = .ok (.istore_n 2, 1) := by decide +kernel
theorem dX0_popYoungest_2 : decode cX0_popYoungest 2 = .ok (.iconst 0, 1) := by decide +kernel
theorem dX0_popYoungest_3 : decode cX0_popYoungest 3 = .ok (.istore_n 3, 1) := by decide +kernel
theorem dX0_popYoungest_4 : decode cX0_popYoungest 4 = .ok (.iload_n 3, 1) := by decide +kernel
theorem dX0_popYoungest_5 : decode cX0_popYoungest 5 = .ok (.aload_n 0, 1) := by decide +kernel
theorem dX0_popYoungest_6 : decode cX0_popYoungest 6 = .ok (.getfield 24, 3) := by decide +kernel
theorem dX0_popYoungest_9 : decode cX0_popYoungest 9 = .ok (.getfield 60, 3) := by decide +kernel
theorem dX0_popYoungest_12 : decode cX0_popYoungest 12 = .ok (.if_icmp .ge 63, 3) := by decide +kernel
theorem dX0_popYoungest_15 : decode cX0_popYoungest 15 = .ok (.aload_n 0, 1) := by decide +kernel
theorem dX0_popYoungest_16 : decode cX0_popYoungest 16 = .ok (.getfield 18, 3) := by decide +kernel
theorem dX0_popYoungest_19 : decode cX0_popYoungest 19 = .ok (.iload_n 3, 1) := by decide +kernel
theorem dX0_popYoungest_20 : decode cX0_popYoungest 20 = .ok (.iaload, 1) := by decide +kernel
theorem dX0_popYoungest_21 : decode cX0_popYoungest 21 = .ok (.istore 4, 2) := by decide +kernel
theorem dX0_popYoungest_23 : decode cX0_popYoungest 23 = .ok (.iload 4, 2) := by decide +kernel
theorem dX0_popYoungest_25 : decode cX0_popYoungest 25 = .ok (.iconst (-1), 1) := by decide +kernel
theorem dX0_popYoungest_26 : decode cX0_popYoungest 26 = .ok (.if_icmp .eq 43, 3) := by decide +kernel
theorem dX0_popYoungest_29 : decode cX0_popYoungest 29 = .ok (.aload_n 0, 1) := by decide +kernel
theorem dX0_popYoungest_30 : decode cX0_popYoungest 30 = .ok (.getfield 24, 3) := by decide +kernel
theorem dX0_popYoungest_33 : decode cX0_popYoungest 33 = .ok (.getfield 63, 3) := by decide +kernel
theorem dX0_popYoungest_36 : decode cX0_popYoungest 36 = .ok (.iload_n 3, 1) := by decide +kernel
theorem dX0_popYoungest_37 : decode cX0_popYoungest 37 = .ok (.aaload, 1) := by decide +kernel
theorem dX0_popYoungest_38 : decode cX0_popYoungest 38 = .ok (.iload_n 1, 1) := by decide +kernel
theorem dX0_popYoungest_39 : decode cX0_popYoungest 39 = .ok (.invokevirtual 67, 3) := by decide +kernel
theorem dX0_popYoungest_42 : decode cX0_popYoungest 42 = .ok (.ifCond .eq 27, 3) := by decide +kernel
theorem dX0_popYoungest_45 : decode cX0_popYoungest 45 = .ok (.aload_n 0, 1) := by decide +kernel
theorem dX0_popYoungest_46 : decode cX0_popYoungest 46 = .ok (.getfield 9, 3) := by decide +kernel
theorem dX0_popYoungest_49 : decode cX0_popYoungest 49 = .ok (.iload 4, 2) := by decide +kernel
theorem dX0_popYoungest_51 : decode cX0_popYoungest 51 = .ok (.iload_n 1, 1) := by decide +kernel
theorem dX0_popYoungest_52 : decode cX0_popYoungest 52 = .ok (.iastore, 1) := by decide +kernel
theorem dX0_popYoungest_53 : decode cX0_popYoungest 53 = .ok (.aload_n 0, 1) := by decide +kernel
theorem dX0_popYoungest_54 : decode cX0_popYoungest 54 = .ok (.getfield 18, 3) := by decide +kernel
theorem dX0_popYoungest_57 : decode cX0_popYoungest 57 = .ok (.iload_n 3, 1) := by decide +kernel
theorem dX0_popYoungest_58 : decode cX0_popYoungest 58 = .ok (.aload_n 0, 1) := by decide +kernel
theorem dX0_popYoungest_59 : decode cX0_popYoungest 59 = .ok (.getfield 15, 3) := by decide +kernel
theorem dX0_popYoungest_62 : decode cX0_popYoungest 62 = .ok (.iload 4, 2) := by decide +kernel
theorem dX0_popYoungest_64 : decode cX0_popYoungest 64 = .ok (.iaload, 1) := by decide +kernel
theorem dX0_popYoungest_65 : decode cX0_popYoungest 65 = .ok (.iastore, 1) := by decide +kernel
theorem dX0_popYoungest_66 : decode cX0_popYoungest 66 = .ok (.iinc 2 1, 3) := by decide +kernel
theorem dX0_popYoungest_69 : decode cX0_popYoungest 69 = .ok (.iinc 3 1, 3) := by decide +kernel
theorem dX0_popYoungest_72 : decode cX0_popYoungest 72 = .ok (.goto (-68), 3) := by decide +kernel
theorem dX0_popYoungest_75 : decode cX0_popYoungest 75 = .ok (.iload_n 2, 1) := by decide +kernel
theorem dX0_popYoungest_76 : decode cX0_popYoungest 76 = .ok (.ireturn, 1) := by decide +kernel
theorem dX0_staysAt_0 : decode cX0_staysAt 0 = .ok (.iconst 0, 1) := by decide +kernel
theorem dX0_staysAt_1 : decode cX0_staysAt 1 = .ok (.istore_n 3, 1) := by decide +kernel
theorem dX0_staysAt_2 : decode cX0_staysAt 2 = .ok (.iconst 0, 1) := by decide +kernel
theorem dX0_staysAt_3 : decode cX0_staysAt 3 = .ok (.istore 4, 2) := by decide +kernel
theorem dX0_staysAt_5 : decode cX0_staysAt 5 = .ok (.iload 4, 2) := by decide +kernel
theorem dX0_staysAt_7 : decode cX0_staysAt 7 = .ok (.iload_n 2, 1) := by decide +kernel
theorem dX0_staysAt_8 : decode cX0_staysAt 8 = .ok (.if_icmp .gt 23, 3) := by decide +kernel
theorem dX0_staysAt_11 : decode cX0_staysAt 11 = .ok (.aload_n 0, 1) := by decide +kernel
theorem dX0_staysAt_12 : decode cX0_staysAt 12 = .ok (.getfield 9, 3) := by decide +kernel
theorem dX0_staysAt_15 : decode cX0_staysAt 15 = .ok (.iload 4, 2) := by decide +kernel
theorem dX0_staysAt_17 : decode cX0_staysAt 17 = .ok (.iaload, 1) := by decide +kernel
theorem dX0_staysAt_18 : decode cX0_staysAt 18 = .ok (.iload_n 1, 1) := by decide +kernel
theorem dX0_staysAt_19 : decode cX0_staysAt 19 = .ok (.if_icmp .lt 6, 3) := by decide +kernel
theorem dX0_staysAt_22 : decode cX0_staysAt 22 = .ok (.iinc 3 1, 3) := by decide +kernel
theorem dX0_staysAt_25 : decode cX0_staysAt 25 = .ok (.iinc 4 1, 3) := by decide +kernel
theorem dX0_staysAt_28 : decode cX0_staysAt 28 = .ok (.goto (-23), 3) := by decide +kernel
theorem dX0_staysAt_31 : decode cX0_staysAt 31 = .ok (.iload_n 3, 1) := by decide +kernel
theorem dX0_staysAt_32 : decode cX0_staysAt 32 = .ok (.ireturn, 1) := by decide +kernel
theorem dX0_longestStay_0 : decode cX0_longestStay 0 = .ok (.iconst 0, 1) := by decide +kernel
theorem dX0_longestStay_1 : decode cX0_longestStay 1 = .ok (.istore_n 2, 1) := by decide +kernel
theorem dX0_longestStay_2 : decode cX0_longestStay 2 = .ok (.iconst 1, 1) := by decide +kernel
theorem dX0_longestStay_3 : decode cX0_longestStay 3 = .ok (.istore_n 3, 1) := by decide +kernel
theorem dX0_longestStay_4 : decode cX0_longestStay 4 = .ok (.iload_n 3, 1) := by decide +kernel
theorem dX0_longestStay_5 : decode cX0_longestStay 5 = .ok (.iload_n 1, 1) := by decide +kernel
theorem dX0_longestStay_6 : decode cX0_longestStay 6 = .ok (.if_icmp .gt 26, 3) := by decide +kernel
theorem dX0_longestStay_9 : decode cX0_longestStay 9 = .ok (.aload_n 0, 1) := by decide +kernel
theorem dX0_longestStay_10 : decode cX0_longestStay 10 = .ok (.getfield 9, 3) := by decide +kernel
theorem dX0_longestStay_13 : decode cX0_longestStay 13 = .ok (.iload_n 3, 1) := by decide +kernel
theorem dX0_longestStay_14 : decode cX0_longestStay 14 = .ok (.iaload, 1) := by decide +kernel
theorem dX0_longestStay_15 : decode cX0_longestStay 15 = .ok (.aload_n 0, 1) := by decide +kernel
theorem dX0_longestStay_16 : decode cX0_longestStay 16 = .ok (.getfield 9, 3) := by decide +kernel
theorem dX0_longestStay_19 : decode cX0_longestStay 19 = .ok (.iload_n 2, 1) := by decide +kernel
theorem dX0_longestStay_20 : decode cX0_longestStay 20 = .ok (.iaload, 1) := by decide +kernel
theorem dX0_longestStay_21 : decode cX0_longestStay 21 = .ok (.if_icmp .le 5, 3) := by decide +kernel
theorem dX0_longestStay_24 : decode cX0_longestStay 24 = .ok (.iload_n 3, 1) := by decide +kernel
theorem dX0_longestStay_25 : decode cX0_longestStay 25 = .ok (.istore_n 2, 1) := by decide +kernel
theorem dX0_longestStay_26 : decode cX0_longestStay 26 = .ok (.iinc 3 1, 3) := by decide +kernel
theorem dX0_longestStay_29 : decode cX0_longestStay 29 = .ok (.goto (-25), 3) := by decide +kernel
theorem dX0_longestStay_32 : decode cX0_longestStay 32 = .ok (.iload_n 2, 1) := by decide +kernel
theorem dX0_longestStay_33 : decode cX0_longestStay 33 = .ok (.ireturn, 1) := by decide +kernel
theorem dX0_leastShare_0 : decode cX0_leastShare 0 = .ok (.iconst 0, 1) := by decide +kernel
theorem dX0_leastShare_1 : decode cX0_leastShare 1 = .ok (.istore_n 2, 1) := by decide +kernel
theorem dX0_leastShare_2 : decode cX0_leastShare 2 = .ok (.iload_n 2, 1) := by decide +kernel
theorem dX0_leastShare_3 : decode cX0_leastShare 3 = .ok (.iconst 4, 1) := by decide +kernel
theorem dX0_leastShare_4 : decode cX0_leastShare 4 = .ok (.if_icmp .ge 16, 3) := by decide +kernel
theorem dX0_leastShare_7 : decode cX0_leastShare 7 = .ok (.aload_n 0, 1) := by decide +kernel
theorem dX0_leastShare_8 : decode cX0_leastShare 8 = .ok (.getfield 21, 3) := by decide +kernel
theorem dX0_leastShare_11 : decode cX0_leastShare 11 = .ok (.iload_n 2, 1) := by decide +kernel
theorem dX0_leastShare_12 : decode cX0_leastShare 12 = .ok (.iconst 0, 1) := by decide +kernel
theorem dX0_leastShare_13 : decode cX0_leastShare 13 = .ok (.iastore, 1) := by decide +kernel
theorem dX0_leastShare_14 : decode cX0_leastShare 14 = .ok (.iinc 2 1, 3) := by decide +kernel
theorem dX0_leastShare_17 : decode cX0_leastShare 17 = .ok (.goto (-15), 3) := by decide +kernel
theorem dX0_leastShare_20 : decode cX0_leastShare 20 = .ok (.iconst 1, 1) := by decide +kernel
theorem dX0_leastShare_21 : decode cX0_leastShare 21 = .ok (.istore_n 2, 1) := by decide +kernel
theorem dX0_leastShare_22 : decode cX0_leastShare 22 = .ok (.iconst 0, 1) := by decide +kernel
theorem dX0_leastShare_23 : decode cX0_leastShare 23 = .ok (.istore_n 3, 1) := by decide +kernel
theorem dX0_leastShare_24 : decode cX0_leastShare 24 = .ok (.iconst 0, 1) := by decide +kernel
theorem dX0_leastShare_25 : decode cX0_leastShare 25 = .ok (.istore 4, 2) := by decide +kernel
theorem dX0_leastShare_27 : decode cX0_leastShare 27 = .ok (.iconst 0, 1) := by decide +kernel
theorem dX0_leastShare_28 : decode cX0_leastShare 28 = .ok (.istore 5, 2) := by decide +kernel
theorem dX0_leastShare_30 : decode cX0_leastShare 30 = .ok (.iload 5, 2) := by decide +kernel
theorem dX0_leastShare_32 : decode cX0_leastShare 32 = .ok (.aload_n 1, 1) := by decide +kernel
theorem dX0_leastShare_33 : decode cX0_leastShare 33 = .ok (.getfield 32, 3) := by decide +kernel
theorem dX0_leastShare_36 : decode cX0_leastShare 36 = .ok (.if_icmp .ge 93, 3) := by decide +kernel
theorem dX0_leastShare_39 : decode cX0_leastShare 39 = .ok (.iload_n 3, 1) := by decide +kernel
theorem dX0_leastShare_40 : decode cX0_leastShare 40 = .ok (.aload_n 1, 1) := by decide +kernel
theorem dX0_leastShare_41 : decode cX0_leastShare 41 = .ok (.getfield 38, 3) := by decide +kernel
theorem dX0_leastShare_44 : decode cX0_leastShare 44 = .ok (.iload 5, 2) := by decide +kernel
theorem dX0_leastShare_46 : decode cX0_leastShare 46 = .ok (.iaload, 1) := by decide +kernel
theorem dX0_leastShare_47 : decode cX0_leastShare 47 = .ok (.if_icmp .ge 19, 3) := by decide +kernel
theorem dX0_leastShare_50 : decode cX0_leastShare 50 = .ok (.iload 4, 2) := by decide +kernel
theorem dX0_leastShare_52 : decode cX0_leastShare 52 = .ok (.aload_n 0, 1) := by decide +kernel
theorem dX0_leastShare_53 : decode cX0_leastShare 53 = .ok (.iload_n 3, 1) := by decide +kernel
theorem dX0_leastShare_54 : decode cX0_leastShare 54 = .ok (.invokevirtual 73, 3) := by decide +kernel
theorem dX0_leastShare_57 : decode cX0_leastShare 57 = .ok (.isub, 1) := by decide +kernel
theorem dX0_leastShare_58 : decode cX0_leastShare 58 = .ok (.istore 4, 2) := by decide +kernel
theorem dX0_leastShare_60 : decode cX0_leastShare 60 = .ok (.iinc 3 1, 3) := by decide +kernel
theorem dX0_leastShare_63 : decode cX0_leastShare 63 = .ok (.goto (-24), 3) := by decide +kernel
theorem dX0_leastShare_66 : decode cX0_leastShare 66 = .ok (.aload_n 1, 1) := by decide +kernel
theorem dX0_leastShare_67 : decode cX0_leastShare 67 = .ok (.getfield 54, 3) := by decide +kernel
theorem dX0_leastShare_70 : decode cX0_leastShare 70 = .ok (.iload 5, 2) := by decide +kernel
theorem dX0_leastShare_72 : decode cX0_leastShare 72 = .ok (.iaload, 1) := by decide +kernel
theorem dX0_leastShare_73 : decode cX0_leastShare 73 = .ok (.istore 6, 2) := by decide +kernel
theorem dX0_leastShare_75 : decode cX0_leastShare 75 = .ok (.iload_n 2, 1) := by decide +kernel
theorem dX0_leastShare_76 : decode cX0_leastShare 76 = .ok (.aload_n 0, 1) := by decide +kernel
theorem dX0_leastShare_77 : decode cX0_leastShare 77 = .ok (.getfield 21, 3) := by decide +kernel
theorem dX0_leastShare_80 : decode cX0_leastShare 80 = .ok (.iload 6, 2) := by decide +kernel
theorem dX0_leastShare_82 : decode cX0_leastShare 82 = .ok (.iaload, 1) := by decide +kernel
theorem dX0_leastShare_83 : decode cX0_leastShare 83 = .ok (.aload_n 0, 1) := by decide +kernel
theorem dX0_leastShare_84 : decode cX0_leastShare 84 = .ok (.getfield 24, 3) := by decide +kernel
theorem dX0_leastShare_87 : decode cX0_leastShare 87 = .ok (.getfield 45, 3) := by decide +kernel
theorem dX0_leastShare_90 : decode cX0_leastShare 90 = .ok (.iload 4, 2) := by decide +kernel
theorem dX0_leastShare_92 : decode cX0_leastShare 92 = .ok (.isub, 1) := by decide +kernel
theorem dX0_leastShare_93 : decode cX0_leastShare 93 = .ok (.invokestatic 76, 3) := by decide +kernel
theorem dX0_leastShare_96 : decode cX0_leastShare 96 = .ok (.invokestatic 79, 3) := by decide +kernel
theorem dX0_leastShare_99 : decode cX0_leastShare 99 = .ok (.istore_n 2, 1) := by decide +kernel
theorem dX0_leastShare_100 : decode cX0_leastShare 100 = .ok (.iload_n 2, 1) := by decide +kernel
theorem dX0_leastShare_101 : decode cX0_leastShare 101 = .ok (.sipush 160, 3) := by decide +kernel
theorem dX0_leastShare_104 : decode cX0_leastShare 104 = .ok (.if_icmp .le 5, 3) := by decide +kernel
theorem dX0_leastShare_107 : decode cX0_leastShare 107 = .ok (.iconst (-1), 1) := by decide +kernel
theorem dX0_leastShare_108 : decode cX0_leastShare 108 = .ok (.ireturn, 1) := by decide +kernel
theorem dX0_leastShare_109 : decode cX0_leastShare 109 = .ok (.aload_n 0, 1) := by decide +kernel
theorem dX0_leastShare_110 : decode cX0_leastShare 110 = .ok (.getfield 21, 3) := by decide +kernel
theorem dX0_leastShare_113 : decode cX0_leastShare 113 = .ok (.iload 6, 2) := by decide +kernel
theorem dX0_leastShare_115 : decode cX0_leastShare 115 = .ok (.dup2, 1) := by decide +kernel
theorem dX0_leastShare_116 : decode cX0_leastShare 116 = .ok (.iaload, 1) := by decide +kernel
theorem dX0_leastShare_117 : decode cX0_leastShare 117 = .ok (.iconst 1, 1) := by decide +kernel
theorem dX0_leastShare_118 : decode cX0_leastShare 118 = .ok (.iadd, 1) := by decide +kernel
theorem dX0_leastShare_119 : decode cX0_leastShare 119 = .ok (.iastore, 1) := by decide +kernel
theorem dX0_leastShare_120 : decode cX0_leastShare 120 = .ok (.iinc 4 1, 3) := by decide +kernel
theorem dX0_leastShare_123 : decode cX0_leastShare 123 = .ok (.iinc 5 1, 3) := by decide +kernel
theorem dX0_leastShare_126 : decode cX0_leastShare 126 = .ok (.goto (-96), 3) := by decide +kernel
theorem dX0_leastShare_129 : decode cX0_leastShare 129 = .ok (.iload_n 2, 1) := by decide +kernel
theorem dX0_leastShare_130 : decode cX0_leastShare 130 = .ok (.ireturn, 1) := by decide +kernel
theorem dX0_shareToTake_0 : decode cX0_shareToTake 0 = .ok (.iload_n 1, 1) := by decide +kernel
theorem dX0_shareToTake_1 : decode cX0_shareToTake 1 = .ok (.ifCond .gt 9, 3) := by decide +kernel
theorem dX0_shareToTake_4 : decode cX0_shareToTake 4 = .ok (.sipush 161, 3) := by decide +kernel
theorem dX0_shareToTake_7 : decode cX0_shareToTake 7 = .ok (.goto 11, 3) := by decide +kernel
theorem dX0_shareToTake_10 : decode cX0_shareToTake 10 = .ok (.bipush 16, 2) := by decide +kernel
theorem dX0_shareToTake_12 : decode cX0_shareToTake 12 = .ok (.iload_n 0, 1) := by decide +kernel
theorem dX0_shareToTake_13 : decode cX0_shareToTake 13 = .ok (.imul, 1) := by decide +kernel
theorem dX0_shareToTake_14 : decode cX0_shareToTake 14 = .ok (.iload_n 1, 1) := by decide +kernel
theorem dX0_shareToTake_15 : decode cX0_shareToTake 15 = .ok (.idiv, 1) := by decide +kernel
theorem dX0_shareToTake_16 : decode cX0_shareToTake 16 = .ok (.iconst 1, 1) := by decide +kernel
theorem dX0_shareToTake_17 : decode cX0_shareToTake 17 = .ok (.iadd, 1) := by decide +kernel
theorem dX0_shareToTake_18 : decode cX0_shareToTake 18 = .ok (.ireturn, 1) := by decide +kernel
theorem dX0_passTick_0 : decode cX0_passTick 0 = .ok (.iconst 0, 1) := by decide +kernel
theorem dX0_passTick_1 : decode cX0_passTick 1 = .ok (.istore_n 2, 1) := by decide +kernel
theorem dX0_passTick_2 : decode cX0_passTick 2 = .ok (.iconst 0, 1) := by decide +kernel
theorem dX0_passTick_3 : decode cX0_passTick 3 = .ok (.istore_n 3, 1) := by decide +kernel
theorem dX0_passTick_4 : decode cX0_passTick 4 = .ok (.iload_n 3, 1) := by decide +kernel
theorem dX0_passTick_5 : decode cX0_passTick 5 = .ok (.aload_n 0, 1) := by decide +kernel
theorem dX0_passTick_6 : decode cX0_passTick 6 = .ok (.getfield 24, 3) := by decide +kernel
theorem dX0_passTick_9 : decode cX0_passTick 9 = .ok (.getfield 60, 3) := by decide +kernel
theorem dX0_passTick_12 : decode cX0_passTick 12 = .ok (.if_icmp .ge 47, 3) := by decide +kernel
theorem dX0_passTick_15 : decode cX0_passTick 15 = .ok (.aload_n 0, 1) := by decide +kernel
theorem dX0_passTick_16 : decode cX0_passTick 16 = .ok (.getfield 21, 3) := by decide +kernel
theorem dX0_passTick_19 : decode cX0_passTick 19 = .ok (.iload_n 3, 1) := by decide +kernel
theorem dX0_passTick_20 : decode cX0_passTick 20 = .ok (.iaload, 1) := by decide +kernel
theorem dX0_passTick_21 : decode cX0_passTick 21 = .ok (.ifCond .le 32, 3) := by decide +kernel
theorem dX0_passTick_24 : decode cX0_passTick 24 = .ok (.aload_n 0, 1) := by decide +kernel
theorem dX0_passTick_25 : decode cX0_passTick 25 = .ok (.getfield 24, 3) := by decide +kernel
theorem dX0_passTick_28 : decode cX0_passTick 28 = .ok (.getfield 63, 3) := by decide +kernel
theorem dX0_passTick_31 : decode cX0_passTick 31 = .ok (.iload_n 3, 1) := by decide +kernel
theorem dX0_passTick_32 : decode cX0_passTick 32 = .ok (.aaload, 1) := by decide +kernel
theorem dX0_passTick_33 : decode cX0_passTick 33 = .ok (.iload_n 1, 1) := by decide +kernel
theorem dX0_passTick_34 : decode cX0_passTick 34 = .ok (.invokevirtual 67, 3) := by decide +kernel
theorem dX0_passTick_37 : decode cX0_passTick 37 = .ok (.ifCond .eq 16, 3) := by decide +kernel
theorem dX0_passTick_40 : decode cX0_passTick 40 = .ok (.aload_n 0, 1) := by decide +kernel
theorem dX0_passTick_41 : decode cX0_passTick 41 = .ok (.getfield 21, 3) := by decide +kernel
theorem dX0_passTick_44 : decode cX0_passTick 44 = .ok (.iload_n 3, 1) := by decide +kernel
theorem dX0_passTick_45 : decode cX0_passTick 45 = .ok (.dup2, 1) := by decide +kernel
theorem dX0_passTick_46 : decode cX0_passTick 46 = .ok (.iaload, 1) := by decide +kernel
theorem dX0_passTick_47 : decode cX0_passTick 47 = .ok (.iconst 1, 1) := by decide +kernel
theorem dX0_passTick_48 : decode cX0_passTick 48 = .ok (.isub, 1) := by decide +kernel
theorem dX0_passTick_49 : decode cX0_passTick 49 = .ok (.iastore, 1) := by decide +kernel
theorem dX0_passTick_50 : decode cX0_passTick 50 = .ok (.iinc 2 1, 3) := by decide +kernel
theorem dX0_passTick_53 : decode cX0_passTick 53 = .ok (.iinc 3 1, 3) := by decide +kernel
theorem dX0_passTick_56 : decode cX0_passTick 56 = .ok (.goto (-52), 3) := by decide +kernel
theorem dX0_passTick_59 : decode cX0_passTick 59 = .ok (.iload_n 2, 1) := by decide +kernel
theorem dX0_passTick_60 : decode cX0_passTick 60 = .ok (.ireturn, 1) := by decide +kernel
theorem dX1_init_0 : decode cX1_init 0 = .ok (.aload_n 0, 1) := by decide +kernel
theorem dX1_init_1 : decode cX1_init 1 = .ok (.iload_n 1, 1) := by decide +kernel
theorem dX1_init_2 : decode cX1_init 2 = .ok (.invokespecial 3, 3) := by decide +kernel
theorem dX1_init_5 : decode cX1_init 5 = .ok (.aload_n 0, 1) := by decide +kernel
theorem dX1_init_6 : decode cX1_init 6 = .ok (.iconst 2, 1) := by decide +kernel
theorem dX1_init_7 : decode cX1_init 7 = .ok (.putfield 9, 3) := by decide +kernel
theorem dX1_init_10 : decode cX1_init 10 = .ok (.aload_n 0, 1) := by decide +kernel
theorem dX1_init_11 : decode cX1_init 11 = .ok (.iconst 1, 1) := by decide +kernel
theorem dX1_init_12 : decode cX1_init 12 = .ok (.putfield 15, 3) := by decide +kernel
theorem dX1_init_15 : decode cX1_init 15 = .ok (.aload_n 0, 1) := by decide +kernel
theorem dX1_init_16 : decode cX1_init 16 = .ok (.iconst 1, 1) := by decide +kernel
theorem dX1_init_17 : decode cX1_init 17 = .ok (.putfield 18, 3) := by decide +kernel
theorem dX1_init_20 : decode cX1_init 20 = .ok (.return_, 1) := by decide +kernel
theorem dX1_kindNumber_0 : decode cX1_kindNumber 0 = .ok (.iconst 2, 1) := by decide +kernel
theorem dX1_kindNumber_1 : decode cX1_kindNumber 1 = .ok (.ireturn, 1) := by decide +kernel
theorem dX1_bound_0 : decode cX1_bound 0 = .ok (.iload_n 1, 1) := by decide +kernel
theorem dX1_bound_1 : decode cX1_bound 1 = .ok (.tableswitch 42 3 5 #[27, 32, 37], 27) := by decide +kernel
theorem dX1_bound_28 : decode cX1_bound 28 = .ok (.aload_n 0, 1) := by decide +kernel
theorem dX1_bound_29 : decode cX1_bound 29 = .ok (.getfield 9, 3) := by decide +kernel
theorem dX1_bound_32 : decode cX1_bound 32 = .ok (.ireturn, 1) := by decide +kernel
theorem dX1_bound_33 : decode cX1_bound 33 = .ok (.aload_n 0, 1) := by decide +kernel
theorem dX1_bound_34 : decode cX1_bound 34 = .ok (.getfield 15, 3) := by decide +kernel
theorem dX1_bound_37 : decode cX1_bound 37 = .ok (.ireturn, 1) := by decide +kernel
theorem dX1_bound_38 : decode cX1_bound 38 = .ok (.aload_n 0, 1) := by decide +kernel
theorem dX1_bound_39 : decode cX1_bound 39 = .ok (.getfield 18, 3) := by decide +kernel
theorem dX1_bound_42 : decode cX1_bound 42 = .ok (.ireturn, 1) := by decide +kernel
theorem dX1_bound_43 : decode cX1_bound 43 = .ok (.aload_n 0, 1) := by decide +kernel
theorem dX1_bound_44 : decode cX1_bound 44 = .ok (.getfield 9, 3) := by decide +kernel
theorem dX1_bound_47 : decode cX1_bound 47 = .ok (.aload_n 0, 1) := by decide +kernel
theorem dX1_bound_48 : decode cX1_bound 48 = .ok (.getfield 18, 3) := by decide +kernel
theorem dX1_bound_51 : decode cX1_bound 51 = .ok (.iadd, 1) := by decide +kernel
theorem dX1_bound_52 : decode cX1_bound 52 = .ok (.ireturn, 1) := by decide +kernel
theorem dX1_tellsHalt_0 : decode cX1_tellsHalt 0 = .ok (.iload_n 1, 1) := by decide +kernel
theorem dX1_tellsHalt_1 : decode cX1_tellsHalt 1 = .ok (.aload_n 0, 1) := by decide +kernel
theorem dX1_tellsHalt_2 : decode cX1_tellsHalt 2 = .ok (.getfield 9, 3) := by decide +kernel
theorem dX1_tellsHalt_5 : decode cX1_tellsHalt 5 = .ok (.if_icmp .lt 5, 3) := by decide +kernel
theorem dX1_tellsHalt_8 : decode cX1_tellsHalt 8 = .ok (.iconst 1, 1) := by decide +kernel
theorem dX1_tellsHalt_9 : decode cX1_tellsHalt 9 = .ok (.ireturn, 1) := by decide +kernel
theorem dX1_tellsHalt_10 : decode cX1_tellsHalt 10 = .ok (.iload_n 1, 1) := by decide +kernel
theorem dX1_tellsHalt_11 : decode cX1_tellsHalt 11 = .ok (.aload_n 0, 1) := by decide +kernel
theorem dX1_tellsHalt_12 : decode cX1_tellsHalt 12 = .ok (.getfield 15, 3) := by decide +kernel
theorem dX1_tellsHalt_15 : decode cX1_tellsHalt 15 = .ok (.if_icmp .le 11, 3) := by decide +kernel
theorem dX1_tellsHalt_18 : decode cX1_tellsHalt 18 = .ok (.iload_n 2, 1) := by decide +kernel
theorem dX1_tellsHalt_19 : decode cX1_tellsHalt 19 = .ok (.ifCond .eq 7, 3) := by decide +kernel
theorem dX1_tellsHalt_22 : decode cX1_tellsHalt 22 = .ok (.iconst 1, 1) := by decide +kernel
theorem dX1_tellsHalt_23 : decode cX1_tellsHalt 23 = .ok (.goto 4, 3) := by decide +kernel
theorem dX1_tellsHalt_26 : decode cX1_tellsHalt 26 = .ok (.iconst 0, 1) := by decide +kernel
theorem dX1_tellsHalt_27 : decode cX1_tellsHalt 27 = .ok (.ireturn, 1) := by decide +kernel
theorem dX2_init_0 : decode cX2_init 0 = .ok (.aload_n 0, 1) := by decide +kernel
theorem dX2_init_1 : decode cX2_init 1 = .ok (.invokespecial 3, 3) := by decide +kernel
theorem dX2_init_4 : decode cX2_init 4 = .ok (.aload_n 0, 1) := by decide +kernel
theorem dX2_init_5 : decode cX2_init 5 = .ok (.iconst 1, 1) := by decide +kernel
theorem dX2_init_6 : decode cX2_init 6 = .ok (.putfield 9, 3) := by decide +kernel
theorem dX2_init_9 : decode cX2_init 9 = .ok (.aload_n 0, 1) := by decide +kernel
theorem dX2_init_10 : decode cX2_init 10 = .ok (.iload_n 1, 1) := by decide +kernel
theorem dX2_init_11 : decode cX2_init 11 = .ok (.putfield 15, 3) := by decide +kernel
theorem dX2_init_14 : decode cX2_init 14 = .ok (.return_, 1) := by decide +kernel
theorem dX2_kindNumber_0 : decode cX2_kindNumber 0 = .ok (.iconst 0, 1) := by decide +kernel
theorem dX2_kindNumber_1 : decode cX2_kindNumber 1 = .ok (.ireturn, 1) := by decide +kernel
theorem dX2_keptPart_0 : decode cX2_keptPart 0 = .ok (.iconst 0, 1) := by decide +kernel
theorem dX2_keptPart_1 : decode cX2_keptPart 1 = .ok (.ireturn, 1) := by decide +kernel
theorem dX2_sendsAt_0 : decode cX2_sendsAt 0 = .ok (.aload_n 0, 1) := by decide +kernel
theorem dX2_sendsAt_1 : decode cX2_sendsAt 1 = .ok (.getfield 9, 3) := by decide +kernel
theorem dX2_sendsAt_4 : decode cX2_sendsAt 4 = .ok (.ifCond .le 18, 3) := by decide +kernel
theorem dX2_sendsAt_7 : decode cX2_sendsAt 7 = .ok (.iload_n 1, 1) := by decide +kernel
theorem dX2_sendsAt_8 : decode cX2_sendsAt 8 = .ok (.iconst 1, 1) := by decide +kernel
theorem dX2_sendsAt_9 : decode cX2_sendsAt 9 = .ok (.iadd, 1) := by decide +kernel
theorem dX2_sendsAt_10 : decode cX2_sendsAt 10 = .ok (.aload_n 0, 1) := by decide +kernel
theorem dX2_sendsAt_11 : decode cX2_sendsAt 11 = .ok (.getfield 9, 3) := by decide +kernel
theorem dX2_sendsAt_14 : decode cX2_sendsAt 14 = .ok (.irem, 1) := by decide +kernel
theorem dX2_sendsAt_15 : decode cX2_sendsAt 15 = .ok (.ifCond .ne 7, 3) := by decide +kernel
theorem dX2_sendsAt_18 : decode cX2_sendsAt 18 = .ok (.iconst 1, 1) := by decide +kernel
theorem dX2_sendsAt_19 : decode cX2_sendsAt 19 = .ok (.goto 4, 3) := by decide +kernel
theorem dX2_sendsAt_22 : decode cX2_sendsAt 22 = .ok (.iconst 0, 1) := by decide +kernel
theorem dX2_sendsAt_23 : decode cX2_sendsAt 23 = .ok (.ireturn, 1) := by decide +kernel
theorem dX3_init_0 : decode cX3_init 0 = .ok (.aload_n 0, 1) := by decide +kernel
theorem dX3_init_1 : decode cX3_init 1 = .ok (.invokespecial 3, 3) := by decide +kernel
theorem dX3_init_4 : decode cX3_init 4 = .ok (.aload_n 0, 1) := by decide +kernel
theorem dX3_init_5 : decode cX3_init 5 = .ok (.bipush 12, 2) := by decide +kernel
theorem dX3_init_7 : decode cX3_init 7 = .ok (.newarray .int, 2) := by decide +kernel
theorem dX3_init_9 : decode cX3_init 9 = .ok (.putfield 9, 3) := by decide +kernel
theorem dX3_init_12 : decode cX3_init 12 = .ok (.return_, 1) := by decide +kernel
theorem dX3_addLast_0 : decode cX3_addLast 0 = .ok (.aload_n 0, 1) := by decide +kernel
theorem dX3_addLast_1 : decode cX3_addLast 1 = .ok (.getfield 9, 3) := by decide +kernel
theorem dX3_addLast_4 : decode cX3_addLast 4 = .ok (.aload_n 0, 1) := by decide +kernel
theorem dX3_addLast_5 : decode cX3_addLast 5 = .ok (.getfield 15, 3) := by decide +kernel
theorem dX3_addLast_8 : decode cX3_addLast 8 = .ok (.aload_n 0, 1) := by decide +kernel
theorem dX3_addLast_9 : decode cX3_addLast 9 = .ok (.getfield 19, 3) := by decide +kernel
theorem dX3_addLast_12 : decode cX3_addLast 12 = .ok (.iadd, 1) := by decide +kernel
theorem dX3_addLast_13 : decode cX3_addLast 13 = .ok (.bipush 12, 2) := by decide +kernel
theorem dX3_addLast_15 : decode cX3_addLast 15 = .ok (.irem, 1) := by decide +kernel
theorem dX3_addLast_16 : decode cX3_addLast 16 = .ok (.iload_n 1, 1) := by decide +kernel
theorem dX3_addLast_17 : decode cX3_addLast 17 = .ok (.iastore, 1) := by decide +kernel
theorem dX3_addLast_18 : decode cX3_addLast 18 = .ok (.aload_n 0, 1) := by decide +kernel
theorem dX3_addLast_19 : decode cX3_addLast 19 = .ok (.dup, 1) := by decide +kernel
theorem dX3_addLast_20 : decode cX3_addLast 20 = .ok (.getfield 19, 3) := by decide +kernel
theorem dX3_addLast_23 : decode cX3_addLast 23 = .ok (.iconst 1, 1) := by decide +kernel
theorem dX3_addLast_24 : decode cX3_addLast 24 = .ok (.iadd, 1) := by decide +kernel
theorem dX3_addLast_25 : decode cX3_addLast 25 = .ok (.putfield 19, 3) := by decide +kernel
theorem dX3_addLast_28 : decode cX3_addLast 28 = .ok (.return_, 1) := by decide +kernel
theorem dX3_removeFirst_0 : decode cX3_removeFirst 0 = .ok (.aload_n 0, 1) := by decide +kernel
theorem dX3_removeFirst_1 : decode cX3_removeFirst 1 = .ok (.getfield 9, 3) := by decide +kernel
theorem dX3_removeFirst_4 : decode cX3_removeFirst 4 = .ok (.aload_n 0, 1) := by decide +kernel
theorem dX3_removeFirst_5 : decode cX3_removeFirst 5 = .ok (.getfield 15, 3) := by decide +kernel
theorem dX3_removeFirst_8 : decode cX3_removeFirst 8 = .ok (.iaload, 1) := by decide +kernel
theorem dX3_removeFirst_9 : decode cX3_removeFirst 9 = .ok (.istore_n 1, 1) := by decide +kernel
theorem dX3_removeFirst_10 : decode cX3_removeFirst 10 = .ok (.aload_n 0, 1) := by decide +kernel
theorem dX3_removeFirst_11 : decode cX3_removeFirst 11 = .ok (.aload_n 0, 1) := by decide +kernel
theorem dX3_removeFirst_12 : decode cX3_removeFirst 12 = .ok (.getfield 15, 3) := by decide +kernel
theorem dX3_removeFirst_15 : decode cX3_removeFirst 15 = .ok (.iconst 1, 1) := by decide +kernel
theorem dX3_removeFirst_16 : decode cX3_removeFirst 16 = .ok (.iadd, 1) := by decide +kernel
theorem dX3_removeFirst_17 : decode cX3_removeFirst 17 = .ok (.bipush 12, 2) := by decide +kernel
theorem dX3_removeFirst_19 : decode cX3_removeFirst 19 = .ok (.irem, 1) := by decide +kernel
theorem dX3_removeFirst_20 : decode cX3_removeFirst 20 = .ok (.putfield 15, 3) := by decide +kernel
theorem dX3_removeFirst_23 : decode cX3_removeFirst 23 = .ok (.aload_n 0, 1) := by decide +kernel
theorem dX3_removeFirst_24 : decode cX3_removeFirst 24 = .ok (.dup, 1) := by decide +kernel
theorem dX3_removeFirst_25 : decode cX3_removeFirst 25 = .ok (.getfield 19, 3) := by decide +kernel
theorem dX3_removeFirst_28 : decode cX3_removeFirst 28 = .ok (.iconst 1, 1) := by decide +kernel
theorem dX3_removeFirst_29 : decode cX3_removeFirst 29 = .ok (.isub, 1) := by decide +kernel
theorem dX3_removeFirst_30 : decode cX3_removeFirst 30 = .ok (.putfield 19, 3) := by decide +kernel
theorem dX3_removeFirst_33 : decode cX3_removeFirst 33 = .ok (.iload_n 1, 1) := by decide +kernel
theorem dX3_removeFirst_34 : decode cX3_removeFirst 34 = .ok (.ireturn, 1) := by decide +kernel
theorem dX3_removeLast_0 : decode cX3_removeLast 0 = .ok (.aload_n 0, 1) := by decide +kernel
theorem dX3_removeLast_1 : decode cX3_removeLast 1 = .ok (.dup, 1) := by decide +kernel
theorem dX3_removeLast_2 : decode cX3_removeLast 2 = .ok (.getfield 19, 3) := by decide +kernel
theorem dX3_removeLast_5 : decode cX3_removeLast 5 = .ok (.iconst 1, 1) := by decide +kernel
theorem dX3_removeLast_6 : decode cX3_removeLast 6 = .ok (.isub, 1) := by decide +kernel
theorem dX3_removeLast_7 : decode cX3_removeLast 7 = .ok (.putfield 19, 3) := by decide +kernel
theorem dX3_removeLast_10 : decode cX3_removeLast 10 = .ok (.aload_n 0, 1) := by decide +kernel
theorem dX3_removeLast_11 : decode cX3_removeLast 11 = .ok (.getfield 9, 3) := by decide +kernel
theorem dX3_removeLast_14 : decode cX3_removeLast 14 = .ok (.aload_n 0, 1) := by decide +kernel
theorem dX3_removeLast_15 : decode cX3_removeLast 15 = .ok (.getfield 15, 3) := by decide +kernel
theorem dX3_removeLast_18 : decode cX3_removeLast 18 = .ok (.aload_n 0, 1) := by decide +kernel
theorem dX3_removeLast_19 : decode cX3_removeLast 19 = .ok (.getfield 19, 3) := by decide +kernel
theorem dX3_removeLast_22 : decode cX3_removeLast 22 = .ok (.iadd, 1) := by decide +kernel
theorem dX3_removeLast_23 : decode cX3_removeLast 23 = .ok (.bipush 12, 2) := by decide +kernel
theorem dX3_removeLast_25 : decode cX3_removeLast 25 = .ok (.irem, 1) := by decide +kernel
theorem dX3_removeLast_26 : decode cX3_removeLast 26 = .ok (.iaload, 1) := by decide +kernel
theorem dX3_removeLast_27 : decode cX3_removeLast 27 = .ok (.ireturn, 1) := by decide +kernel
theorem dX4_init_0 : decode cX4_init 0 = .ok (.aload_n 0, 1) := by decide +kernel
theorem dX4_init_1 : decode cX4_init 1 = .ok (.invokespecial 3, 3) := by decide +kernel
theorem dX4_init_4 : decode cX4_init 4 = .ok (.aload_n 0, 1) := by decide +kernel
theorem dX4_init_5 : decode cX4_init 5 = .ok (.bipush 80, 2) := by decide +kernel
theorem dX4_init_7 : decode cX4_init 7 = .ok (.newarray .int, 2) := by decide +kernel
theorem dX4_init_9 : decode cX4_init 9 = .ok (.putfield 9, 3) := by decide +kernel
theorem dX4_init_12 : decode cX4_init 12 = .ok (.aload_n 0, 1) := by decide +kernel
theorem dX4_init_13 : decode cX4_init 13 = .ok (.bipush 80, 2) := by decide +kernel
theorem dX4_init_15 : decode cX4_init 15 = .ok (.newarray .int, 2) := by decide +kernel
theorem dX4_init_17 : decode cX4_init 17 = .ok (.putfield 15, 3) := by decide +kernel
theorem dX4_init_20 : decode cX4_init 20 = .ok (.return_, 1) := by decide +kernel
theorem dX4_lastTick_0 : decode cX4_lastTick 0 = .ok (.aload_n 0, 1) := by decide +kernel
theorem dX4_lastTick_1 : decode cX4_lastTick 1 = .ok (.getfield 18, 3) := by decide +kernel
theorem dX4_lastTick_4 : decode cX4_lastTick 4 = .ok (.ifCond .ne 7, 3) := by decide +kernel
theorem dX4_lastTick_7 : decode cX4_lastTick 7 = .ok (.iconst 0, 1) := by decide +kernel
theorem dX4_lastTick_8 : decode cX4_lastTick 8 = .ok (.goto 14, 3) := by decide +kernel
theorem dX4_lastTick_11 : decode cX4_lastTick 11 = .ok (.aload_n 0, 1) := by decide +kernel
theorem dX4_lastTick_12 : decode cX4_lastTick 12 = .ok (.getfield 9, 3) := by decide +kernel
theorem dX4_lastTick_15 : decode cX4_lastTick 15 = .ok (.aload_n 0, 1) := by decide +kernel
theorem dX4_lastTick_16 : decode cX4_lastTick 16 = .ok (.getfield 18, 3) := by decide +kernel
theorem dX4_lastTick_19 : decode cX4_lastTick 19 = .ok (.iconst 1, 1) := by decide +kernel
theorem dX4_lastTick_20 : decode cX4_lastTick 20 = .ok (.isub, 1) := by decide +kernel
theorem dX4_lastTick_21 : decode cX4_lastTick 21 = .ok (.iaload, 1) := by decide +kernel
theorem dX4_lastTick_22 : decode cX4_lastTick 22 = .ok (.ireturn, 1) := by decide +kernel
theorem dX4_addLetters_0 : decode cX4_addLetters 0 = .ok (.iconst 0, 1) := by decide +kernel
theorem dX4_addLetters_1 : decode cX4_addLetters 1 = .ok (.istore 4, 2) := by decide +kernel
theorem dX4_addLetters_3 : decode cX4_addLetters 3 = .ok (.iload 4, 2) := by decide +kernel
theorem dX4_addLetters_5 : decode cX4_addLetters 5 = .ok (.iload_n 3, 1) := by decide +kernel
theorem dX4_addLetters_6 : decode cX4_addLetters 6 = .ok (.if_icmp .ge 61, 3) := by decide +kernel
theorem dX4_addLetters_9 : decode cX4_addLetters 9 = .ok (.aload_n 0, 1) := by decide +kernel
theorem dX4_addLetters_10 : decode cX4_addLetters 10 = .ok (.getfield 9, 3) := by decide +kernel
theorem dX4_addLetters_13 : decode cX4_addLetters 13 = .ok (.aload_n 0, 1) := by decide +kernel
theorem dX4_addLetters_14 : decode cX4_addLetters 14 = .ok (.getfield 18, 3) := by decide +kernel
theorem dX4_addLetters_17 : decode cX4_addLetters 17 = .ok (.aload_n 1, 1) := by decide +kernel
theorem dX4_addLetters_18 : decode cX4_addLetters 18 = .ok (.getfield 22, 3) := by decide +kernel
theorem dX4_addLetters_21 : decode cX4_addLetters 21 = .ok (.iload_n 2, 1) := by decide +kernel
theorem dX4_addLetters_22 : decode cX4_addLetters 22 = .ok (.iconst 2, 1) := by decide +kernel
theorem dX4_addLetters_23 : decode cX4_addLetters 23 = .ok (.iload 4, 2) := by decide +kernel
theorem dX4_addLetters_25 : decode cX4_addLetters 25 = .ok (.imul, 1) := by decide +kernel
theorem dX4_addLetters_26 : decode cX4_addLetters 26 = .ok (.iadd, 1) := by decide +kernel
theorem dX4_addLetters_27 : decode cX4_addLetters 27 = .ok (.iaload, 1) := by decide +kernel
theorem dX4_addLetters_28 : decode cX4_addLetters 28 = .ok (.iastore, 1) := by decide +kernel
theorem dX4_addLetters_29 : decode cX4_addLetters 29 = .ok (.aload_n 0, 1) := by decide +kernel
theorem dX4_addLetters_30 : decode cX4_addLetters 30 = .ok (.getfield 15, 3) := by decide +kernel
theorem dX4_addLetters_33 : decode cX4_addLetters 33 = .ok (.aload_n 0, 1) := by decide +kernel
theorem dX4_addLetters_34 : decode cX4_addLetters 34 = .ok (.getfield 18, 3) := by decide +kernel
theorem dX4_addLetters_37 : decode cX4_addLetters 37 = .ok (.aload_n 1, 1) := by decide +kernel
theorem dX4_addLetters_38 : decode cX4_addLetters 38 = .ok (.getfield 22, 3) := by decide +kernel
theorem dX4_addLetters_41 : decode cX4_addLetters 41 = .ok (.iload_n 2, 1) := by decide +kernel
theorem dX4_addLetters_42 : decode cX4_addLetters 42 = .ok (.iconst 2, 1) := by decide +kernel
theorem dX4_addLetters_43 : decode cX4_addLetters 43 = .ok (.iload 4, 2) := by decide +kernel
theorem dX4_addLetters_45 : decode cX4_addLetters 45 = .ok (.imul, 1) := by decide +kernel
theorem dX4_addLetters_46 : decode cX4_addLetters 46 = .ok (.iadd, 1) := by decide +kernel
theorem dX4_addLetters_47 : decode cX4_addLetters 47 = .ok (.iconst 1, 1) := by decide +kernel
theorem dX4_addLetters_48 : decode cX4_addLetters 48 = .ok (.iadd, 1) := by decide +kernel
theorem dX4_addLetters_49 : decode cX4_addLetters 49 = .ok (.iaload, 1) := by decide +kernel
theorem dX4_addLetters_50 : decode cX4_addLetters 50 = .ok (.iastore, 1) := by decide +kernel
theorem dX4_addLetters_51 : decode cX4_addLetters 51 = .ok (.aload_n 0, 1) := by decide +kernel
theorem dX4_addLetters_52 : decode cX4_addLetters 52 = .ok (.dup, 1) := by decide +kernel
theorem dX4_addLetters_53 : decode cX4_addLetters 53 = .ok (.getfield 18, 3) := by decide +kernel
theorem dX4_addLetters_56 : decode cX4_addLetters 56 = .ok (.iconst 1, 1) := by decide +kernel
theorem dX4_addLetters_57 : decode cX4_addLetters 57 = .ok (.iadd, 1) := by decide +kernel
theorem dX4_addLetters_58 : decode cX4_addLetters 58 = .ok (.putfield 18, 3) := by decide +kernel
theorem dX4_addLetters_61 : decode cX4_addLetters 61 = .ok (.iinc 4 1, 3) := by decide +kernel
theorem dX4_addLetters_64 : decode cX4_addLetters 64 = .ok (.goto (-61), 3) := by decide +kernel
theorem dX4_addLetters_67 : decode cX4_addLetters 67 = .ok (.return_, 1) := by decide +kernel
theorem dX5_init_0 : decode cX5_init 0 = .ok (.aload_n 0, 1) := by decide +kernel
theorem dX5_init_1 : decode cX5_init 1 = .ok (.invokespecial 3, 3) := by decide +kernel
theorem dX5_init_4 : decode cX5_init 4 = .ok (.aload_n 0, 1) := by decide +kernel
theorem dX5_init_5 : decode cX5_init 5 = .ok (.iconst 4, 1) := by decide +kernel
theorem dX5_init_6 : decode cX5_init 6 = .ok (.anewarray 9, 3) := by decide +kernel
theorem dX5_init_9 : decode cX5_init 9 = .ok (.putfield 11, 3) := by decide +kernel
theorem dX5_init_12 : decode cX5_init 12 = .ok (.aload_n 0, 1) := by decide +kernel
theorem dX5_init_13 : decode cX5_init 13 = .ok (.bipush 80, 2) := by decide +kernel
theorem dX5_init_15 : decode cX5_init 15 = .ok (.newarray .int, 2) := by decide +kernel
theorem dX5_init_17 : decode cX5_init 17 = .ok (.putfield 17, 3) := by decide +kernel
theorem dX5_init_20 : decode cX5_init 20 = .ok (.aload_n 0, 1) := by decide +kernel
theorem dX5_init_21 : decode cX5_init 21 = .ok (.bipush 80, 2) := by decide +kernel
theorem dX5_init_23 : decode cX5_init 23 = .ok (.newarray .int, 2) := by decide +kernel
theorem dX5_init_25 : decode cX5_init 25 = .ok (.putfield 21, 3) := by decide +kernel
theorem dX5_init_28 : decode cX5_init 28 = .ok (.aload_n 0, 1) := by decide +kernel
theorem dX5_init_29 : decode cX5_init 29 = .ok (.bipush 80, 2) := by decide +kernel
theorem dX5_init_31 : decode cX5_init 31 = .ok (.newarray .int, 2) := by decide +kernel
theorem dX5_init_33 : decode cX5_init 33 = .ok (.putfield 24, 3) := by decide +kernel
theorem dX5_init_36 : decode cX5_init 36 = .ok (.aload_n 0, 1) := by decide +kernel
theorem dX5_init_37 : decode cX5_init 37 = .ok (.bipush 80, 2) := by decide +kernel
theorem dX5_init_39 : decode cX5_init 39 = .ok (.newarray .int, 2) := by decide +kernel
theorem dX5_init_41 : decode cX5_init 41 = .ok (.putfield 27, 3) := by decide +kernel
theorem dX5_init_44 : decode cX5_init 44 = .ok (.aload_n 0, 1) := by decide +kernel
theorem dX5_init_45 : decode cX5_init 45 = .ok (.bipush 80, 2) := by decide +kernel
theorem dX5_init_47 : decode cX5_init 47 = .ok (.newarray .int, 2) := by decide +kernel
theorem dX5_init_49 : decode cX5_init 49 = .ok (.putfield 30, 3) := by decide +kernel
theorem dX5_init_52 : decode cX5_init 52 = .ok (.aload_n 0, 1) := by decide +kernel
theorem dX5_init_53 : decode cX5_init 53 = .ok (.iconst 4, 1) := by decide +kernel
theorem dX5_init_54 : decode cX5_init 54 = .ok (.newarray .int, 2) := by decide +kernel
theorem dX5_init_56 : decode cX5_init 56 = .ok (.putfield 33, 3) := by decide +kernel
theorem dX5_init_59 : decode cX5_init 59 = .ok (.aload_n 0, 1) := by decide +kernel
theorem dX5_init_60 : decode cX5_init 60 = .ok (.iconst 4, 1) := by decide +kernel
theorem dX5_init_61 : decode cX5_init 61 = .ok (.newarray .int, 2) := by decide +kernel
theorem dX5_init_63 : decode cX5_init 63 = .ok (.putfield 36, 3) := by decide +kernel
theorem dX5_init_66 : decode cX5_init 66 = .ok (.aload_n 0, 1) := by decide +kernel
theorem dX5_init_67 : decode cX5_init 67 = .ok (.iconst 4, 1) := by decide +kernel
theorem dX5_init_68 : decode cX5_init 68 = .ok (.newarray .int, 2) := by decide +kernel
theorem dX5_init_70 : decode cX5_init 70 = .ok (.putfield 39, 3) := by decide +kernel
theorem dX5_init_73 : decode cX5_init 73 = .ok (.aload_n 0, 1) := by decide +kernel
theorem dX5_init_74 : decode cX5_init 74 = .ok (.aload_n 1, 1) := by decide +kernel
theorem dX5_init_75 : decode cX5_init 75 = .ok (.putfield 42, 3) := by decide +kernel
theorem dX5_init_78 : decode cX5_init 78 = .ok (.iconst 0, 1) := by decide +kernel
theorem dX5_init_79 : decode cX5_init 79 = .ok (.istore_n 2, 1) := by decide +kernel
theorem dX5_init_80 : decode cX5_init 80 = .ok (.iload_n 2, 1) := by decide +kernel
theorem dX5_init_81 : decode cX5_init 81 = .ok (.iconst 4, 1) := by decide +kernel
theorem dX5_init_82 : decode cX5_init 82 = .ok (.if_icmp .ge 22, 3) := by decide +kernel
theorem dX5_init_85 : decode cX5_init 85 = .ok (.aload_n 0, 1) := by decide +kernel
theorem dX5_init_86 : decode cX5_init 86 = .ok (.getfield 11, 3) := by decide +kernel
theorem dX5_init_89 : decode cX5_init 89 = .ok (.iload_n 2, 1) := by decide +kernel
theorem dX5_init_90 : decode cX5_init 90 = .ok (.new 9, 3) := by decide +kernel
theorem dX5_init_93 : decode cX5_init 93 = .ok (.dup, 1) := by decide +kernel
theorem dX5_init_94 : decode cX5_init 94 = .ok (.invokespecial 46, 3) := by decide +kernel
theorem dX5_init_97 : decode cX5_init 97 = .ok (.aastore, 1) := by decide +kernel
theorem dX5_init_98 : decode cX5_init 98 = .ok (.iinc 2 1, 3) := by decide +kernel
theorem dX5_init_101 : decode cX5_init 101 = .ok (.goto (-21), 3) := by decide +kernel
theorem dX5_init_104 : decode cX5_init 104 = .ok (.return_, 1) := by decide +kernel
theorem dX5_play_0 : decode cX5_play 0 = .ok (.aload_n 0, 1) := by decide +kernel
theorem dX5_play_1 : decode cX5_play 1 = .ok (.aload_n 1, 1) := by decide +kernel
theorem dX5_play_2 : decode cX5_play 2 = .ok (.invokevirtual 47, 3) := by decide +kernel
theorem dX5_play_5 : decode cX5_play 5 = .ok (.aload_n 0, 1) := by decide +kernel
theorem dX5_play_6 : decode cX5_play 6 = .ok (.iload_n 2, 1) := by decide +kernel
theorem dX5_play_7 : decode cX5_play 7 = .ok (.putfield 51, 3) := by decide +kernel
theorem dX5_play_10 : decode cX5_play 10 = .ok (.aload_n 0, 1) := by decide +kernel
theorem dX5_play_11 : decode cX5_play 11 = .ok (.iload_n 3, 1) := by decide +kernel
theorem dX5_play_12 : decode cX5_play 12 = .ok (.putfield 55, 3) := by decide +kernel
theorem dX5_play_15 : decode cX5_play 15 = .ok (.iconst 0, 1) := by decide +kernel
theorem dX5_play_16 : decode cX5_play 16 = .ok (.istore 4, 2) := by decide +kernel
theorem dX5_play_18 : decode cX5_play 18 = .ok (.iload 4, 2) := by decide +kernel
theorem dX5_play_20 : decode cX5_play 20 = .ok (.sipush 400, 3) := by decide +kernel
theorem dX5_play_23 : decode cX5_play 23 = .ok (.if_icmp .ge 55, 3) := by decide +kernel
theorem dX5_play_26 : decode cX5_play 26 = .ok (.aload_n 0, 1) := by decide +kernel
theorem dX5_play_27 : decode cX5_play 27 = .ok (.getfield 59, 3) := by decide +kernel
theorem dX5_play_30 : decode cX5_play 30 = .ok (.aload_n 0, 1) := by decide +kernel
theorem dX5_play_31 : decode cX5_play 31 = .ok (.getfield 62, 3) := by decide +kernel
theorem dX5_play_34 : decode cX5_play 34 = .ok (.iadd, 1) := by decide +kernel
theorem dX5_play_35 : decode cX5_play 35 = .ok (.ifCond .le 43, 3) := by decide +kernel
theorem dX5_play_38 : decode cX5_play 38 = .ok (.aload_n 0, 1) := by decide +kernel
theorem dX5_play_39 : decode cX5_play 39 = .ok (.iload 4, 2) := by decide +kernel
theorem dX5_play_41 : decode cX5_play 41 = .ok (.putfield 65, 3) := by decide +kernel
theorem dX5_play_44 : decode cX5_play 44 = .ok (.aload_n 0, 1) := by decide +kernel
theorem dX5_play_45 : decode cX5_play 45 = .ok (.aload_n 1, 1) := by decide +kernel
theorem dX5_play_46 : decode cX5_play 46 = .ok (.invokevirtual 68, 3) := by decide +kernel
theorem dX5_play_49 : decode cX5_play 49 = .ok (.aload_n 0, 1) := by decide +kernel
theorem dX5_play_50 : decode cX5_play 50 = .ok (.aload_n 1, 1) := by decide +kernel
theorem dX5_play_51 : decode cX5_play 51 = .ok (.invokevirtual 71, 3) := by decide +kernel
theorem dX5_play_54 : decode cX5_play 54 = .ok (.aload_n 0, 1) := by decide +kernel
theorem dX5_play_55 : decode cX5_play 55 = .ok (.invokevirtual 74, 3) := by decide +kernel
theorem dX5_play_58 : decode cX5_play 58 = .ok (.aload_n 0, 1) := by decide +kernel
theorem dX5_play_59 : decode cX5_play 59 = .ok (.invokevirtual 77, 3) := by decide +kernel
theorem dX5_play_62 : decode cX5_play 62 = .ok (.aload_n 0, 1) := by decide +kernel
theorem dX5_play_63 : decode cX5_play 63 = .ok (.dup, 1) := by decide +kernel
theorem dX5_play_64 : decode cX5_play 64 = .ok (.getfield 80, 3) := by decide +kernel
theorem dX5_play_67 : decode cX5_play 67 = .ok (.iconst 1, 1) := by decide +kernel
theorem dX5_play_68 : decode cX5_play 68 = .ok (.iadd, 1) := by decide +kernel
theorem dX5_play_69 : decode cX5_play 69 = .ok (.putfield 80, 3) := by decide +kernel
theorem dX5_play_72 : decode cX5_play 72 = .ok (.iinc 4 1, 3) := by decide +kernel
theorem dX5_play_75 : decode cX5_play 75 = .ok (.goto (-57), 3) := by decide +kernel
theorem dX5_play_78 : decode cX5_play 78 = .ok (.aload_n 0, 1) := by decide +kernel
theorem dX5_play_79 : decode cX5_play 79 = .ok (.invokevirtual 83, 3) := by decide +kernel
theorem dX5_play_82 : decode cX5_play 82 = .ok (.return_, 1) := by decide +kernel
theorem dX5_begin_0 : decode cX5_begin 0 = .ok (.aload_n 0, 1) := by decide +kernel
theorem dX5_begin_1 : decode cX5_begin 1 = .ok (.aload_n 1, 1) := by decide +kernel
theorem dX5_begin_2 : decode cX5_begin 2 = .ok (.getfield 86, 3) := by decide +kernel
theorem dX5_begin_5 : decode cX5_begin 5 = .ok (.putfield 91, 3) := by decide +kernel
theorem dX5_begin_8 : decode cX5_begin 8 = .ok (.aload_n 0, 1) := by decide +kernel
theorem dX5_begin_9 : decode cX5_begin 9 = .ok (.aload_n 1, 1) := by decide +kernel
theorem dX5_begin_10 : decode cX5_begin 10 = .ok (.getfield 86, 3) := by decide +kernel
theorem dX5_begin_13 : decode cX5_begin 13 = .ok (.putfield 59, 3) := by decide +kernel
theorem dX5_begin_16 : decode cX5_begin 16 = .ok (.aload_n 0, 1) := by decide +kernel
theorem dX5_begin_17 : decode cX5_begin 17 = .ok (.iconst 0, 1) := by decide +kernel
theorem dX5_begin_18 : decode cX5_begin 18 = .ok (.putfield 94, 3) := by decide +kernel
theorem dX5_begin_21 : decode cX5_begin 21 = .ok (.aload_n 0, 1) := by decide +kernel
theorem dX5_begin_22 : decode cX5_begin 22 = .ok (.iconst 0, 1) := by decide +kernel
theorem dX5_begin_23 : decode cX5_begin 23 = .ok (.putfield 80, 3) := by decide +kernel
theorem dX5_begin_26 : decode cX5_begin 26 = .ok (.aload_n 0, 1) := by decide +kernel
theorem dX5_begin_27 : decode cX5_begin 27 = .ok (.iconst 0, 1) := by decide +kernel
theorem dX5_begin_28 : decode cX5_begin 28 = .ok (.putfield 62, 3) := by decide +kernel
theorem dX5_begin_31 : decode cX5_begin 31 = .ok (.aload_n 0, 1) := by decide +kernel
theorem dX5_begin_32 : decode cX5_begin 32 = .ok (.iconst 0, 1) := by decide +kernel
theorem dX5_begin_33 : decode cX5_begin 33 = .ok (.putfield 97, 3) := by decide +kernel
theorem dX5_begin_36 : decode cX5_begin 36 = .ok (.iconst 0, 1) := by decide +kernel
theorem dX5_begin_37 : decode cX5_begin 37 = .ok (.istore_n 2, 1) := by decide +kernel
theorem dX5_begin_38 : decode cX5_begin 38 = .ok (.iload_n 2, 1) := by decide +kernel
theorem dX5_begin_39 : decode cX5_begin 39 = .ok (.aload_n 0, 1) := by decide +kernel
theorem dX5_begin_40 : decode cX5_begin 40 = .ok (.getfield 91, 3) := by decide +kernel
theorem dX5_begin_43 : decode cX5_begin 43 = .ok (.if_icmp .ge 47, 3) := by decide +kernel
theorem dX5_begin_46 : decode cX5_begin 46 = .ok (.aload_n 0, 1) := by decide +kernel
theorem dX5_begin_47 : decode cX5_begin 47 = .ok (.getfield 17, 3) := by decide +kernel
theorem dX5_begin_50 : decode cX5_begin 50 = .ok (.iload_n 2, 1) := by decide +kernel
theorem dX5_begin_51 : decode cX5_begin 51 = .ok (.aload_n 1, 1) := by decide +kernel
theorem dX5_begin_52 : decode cX5_begin 52 = .ok (.getfield 100, 3) := by decide +kernel
theorem dX5_begin_55 : decode cX5_begin 55 = .ok (.iload_n 2, 1) := by decide +kernel
theorem dX5_begin_56 : decode cX5_begin 56 = .ok (.iaload, 1) := by decide +kernel
theorem dX5_begin_57 : decode cX5_begin 57 = .ok (.iastore, 1) := by decide +kernel
theorem dX5_begin_58 : decode cX5_begin 58 = .ok (.aload_n 0, 1) := by decide +kernel
theorem dX5_begin_59 : decode cX5_begin 59 = .ok (.getfield 21, 3) := by decide +kernel
theorem dX5_begin_62 : decode cX5_begin 62 = .ok (.iload_n 2, 1) := by decide +kernel
theorem dX5_begin_63 : decode cX5_begin 63 = .ok (.sipush 400, 3) := by decide +kernel
theorem dX5_begin_66 : decode cX5_begin 66 = .ok (.iastore, 1) := by decide +kernel
theorem dX5_begin_67 : decode cX5_begin 67 = .ok (.aload_n 0, 1) := by decide +kernel
theorem dX5_begin_68 : decode cX5_begin 68 = .ok (.iload_n 2, 1) := by decide +kernel
theorem dX5_begin_69 : decode cX5_begin 69 = .ok (.iconst 3, 1) := by decide +kernel
theorem dX5_begin_70 : decode cX5_begin 70 = .ok (.sipush 400, 3) := by decide +kernel
theorem dX5_begin_73 : decode cX5_begin 73 = .ok (.invokevirtual 101, 3) := by decide +kernel
theorem dX5_begin_76 : decode cX5_begin 76 = .ok (.aload_n 0, 1) := by decide +kernel
theorem dX5_begin_77 : decode cX5_begin 77 = .ok (.getfield 30, 3) := by decide +kernel
theorem dX5_begin_80 : decode cX5_begin 80 = .ok (.iload_n 2, 1) := by decide +kernel
theorem dX5_begin_81 : decode cX5_begin 81 = .ok (.bipush (-2), 2) := by decide +kernel
theorem dX5_begin_83 : decode cX5_begin 83 = .ok (.iastore, 1) := by decide +kernel
theorem dX5_begin_84 : decode cX5_begin 84 = .ok (.iinc 2 1, 3) := by decide +kernel
theorem dX5_begin_87 : decode cX5_begin 87 = .ok (.goto (-49), 3) := by decide +kernel
theorem dX5_begin_90 : decode cX5_begin 90 = .ok (.iconst 0, 1) := by decide +kernel
theorem dX5_begin_91 : decode cX5_begin 91 = .ok (.istore_n 2, 1) := by decide +kernel
theorem dX5_begin_92 : decode cX5_begin 92 = .ok (.iload_n 2, 1) := by decide +kernel
theorem dX5_begin_93 : decode cX5_begin 93 = .ok (.iconst 4, 1) := by decide +kernel
theorem dX5_begin_94 : decode cX5_begin 94 = .ok (.if_icmp .ge 30, 3) := by decide +kernel
theorem dX5_begin_97 : decode cX5_begin 97 = .ok (.aload_n 0, 1) := by decide +kernel
theorem dX5_begin_98 : decode cX5_begin 98 = .ok (.getfield 33, 3) := by decide +kernel
theorem dX5_begin_101 : decode cX5_begin 101 = .ok (.iload_n 2, 1) := by decide +kernel
theorem dX5_begin_102 : decode cX5_begin 102 = .ok (.iconst 0, 1) := by decide +kernel
theorem dX5_begin_103 : decode cX5_begin 103 = .ok (.iastore, 1) := by decide +kernel
theorem dX5_begin_104 : decode cX5_begin 104 = .ok (.aload_n 0, 1) := by decide +kernel
theorem dX5_begin_105 : decode cX5_begin 105 = .ok (.getfield 36, 3) := by decide +kernel
theorem dX5_begin_108 : decode cX5_begin 108 = .ok (.iload_n 2, 1) := by decide +kernel
theorem dX5_begin_109 : decode cX5_begin 109 = .ok (.iconst 0, 1) := by decide +kernel
theorem dX5_begin_110 : decode cX5_begin 110 = .ok (.iastore, 1) := by decide +kernel
theorem dX5_begin_111 : decode cX5_begin 111 = .ok (.aload_n 0, 1) := by decide +kernel
theorem dX5_begin_112 : decode cX5_begin 112 = .ok (.getfield 39, 3) := by decide +kernel
theorem dX5_begin_115 : decode cX5_begin 115 = .ok (.iload_n 2, 1) := by decide +kernel
theorem dX5_begin_116 : decode cX5_begin 116 = .ok (.iconst 0, 1) := by decide +kernel
theorem dX5_begin_117 : decode cX5_begin 117 = .ok (.iastore, 1) := by decide +kernel
theorem dX5_begin_118 : decode cX5_begin 118 = .ok (.iinc 2 1, 3) := by decide +kernel
theorem dX5_begin_121 : decode cX5_begin 121 = .ok (.goto (-29), 3) := by decide +kernel
theorem dX5_begin_124 : decode cX5_begin 124 = .ok (.return_, 1) := by decide +kernel
theorem dX5_settle_0 : decode cX5_settle 0 = .ok (.aload_n 0, 1) := by decide +kernel
theorem dX5_settle_1 : decode cX5_settle 1 = .ok (.getfield 24, 3) := by decide +kernel
theorem dX5_settle_4 : decode cX5_settle 4 = .ok (.iload_n 1, 1) := by decide +kernel
theorem dX5_settle_5 : decode cX5_settle 5 = .ok (.iload_n 2, 1) := by decide +kernel
theorem dX5_settle_6 : decode cX5_settle 6 = .ok (.iastore, 1) := by decide +kernel
theorem dX5_settle_7 : decode cX5_settle 7 = .ok (.aload_n 0, 1) := by decide +kernel
theorem dX5_settle_8 : decode cX5_settle 8 = .ok (.getfield 27, 3) := by decide +kernel
theorem dX5_settle_11 : decode cX5_settle 11 = .ok (.iload_n 1, 1) := by decide +kernel
theorem dX5_settle_12 : decode cX5_settle 12 = .ok (.iload_n 3, 1) := by decide +kernel
theorem dX5_settle_13 : decode cX5_settle 13 = .ok (.iastore, 1) := by decide +kernel
theorem dX5_settle_14 : decode cX5_settle 14 = .ok (.return_, 1) := by decide +kernel
theorem dX5_offerHeld_0 : decode cX5_offerHeld 0 = .ok (.iconst 0, 1) := by decide +kernel
theorem dX5_offerHeld_1 : decode cX5_offerHeld 1 = .ok (.istore_n 2, 1) := by decide +kernel
theorem dX5_offerHeld_2 : decode cX5_offerHeld 2 = .ok (.iload_n 2, 1) := by decide +kernel
theorem dX5_offerHeld_3 : decode cX5_offerHeld 3 = .ok (.aload_n 0, 1) := by decide +kernel
theorem dX5_offerHeld_4 : decode cX5_offerHeld 4 = .ok (.getfield 42, 3) := by decide +kernel
theorem dX5_offerHeld_7 : decode cX5_offerHeld 7 = .ok (.getfield 105, 3) := by decide +kernel
theorem dX5_offerHeld_10 : decode cX5_offerHeld 10 = .ok (.if_icmp .ge 51, 3) := by decide +kernel
theorem dX5_offerHeld_13 : decode cX5_offerHeld 13 = .ok (.aload_n 0, 1) := by decide +kernel
theorem dX5_offerHeld_14 : decode cX5_offerHeld 14 = .ok (.iload_n 2, 1) := by decide +kernel
theorem dX5_offerHeld_15 : decode cX5_offerHeld 15 = .ok (.invokevirtual 110, 3) := by decide +kernel
theorem dX5_offerHeld_18 : decode cX5_offerHeld 18 = .ok (.ifCond .eq 37, 3) := by decide +kernel
theorem dX5_offerHeld_21 : decode cX5_offerHeld 21 = .ok (.aload_n 0, 1) := by decide +kernel
theorem dX5_offerHeld_22 : decode cX5_offerHeld 22 = .ok (.iload_n 2, 1) := by decide +kernel
theorem dX5_offerHeld_23 : decode cX5_offerHeld 23 = .ok (.invokevirtual 114, 3) := by decide +kernel
theorem dX5_offerHeld_26 : decode cX5_offerHeld 26 = .ok (.ifCond .ne 29, 3) := by decide +kernel
theorem dX5_offerHeld_29 : decode cX5_offerHeld 29 = .ok (.aload_n 0, 1) := by decide +kernel
theorem dX5_offerHeld_30 : decode cX5_offerHeld 30 = .ok (.aload_n 1, 1) := by decide +kernel
theorem dX5_offerHeld_31 : decode cX5_offerHeld 31 = .ok (.iload_n 2, 1) := by decide +kernel
theorem dX5_offerHeld_32 : decode cX5_offerHeld 32 = .ok (.invokevirtual 117, 3) := by decide +kernel
theorem dX5_offerHeld_35 : decode cX5_offerHeld 35 = .ok (.istore_n 3, 1) := by decide +kernel
theorem dX5_offerHeld_36 : decode cX5_offerHeld 36 = .ok (.iload_n 3, 1) := by decide +kernel
theorem dX5_offerHeld_37 : decode cX5_offerHeld 37 = .ok (.iconst (-1), 1) := by decide +kernel
theorem dX5_offerHeld_38 : decode cX5_offerHeld 38 = .ok (.if_icmp .eq 17, 3) := by decide +kernel
theorem dX5_offerHeld_41 : decode cX5_offerHeld 41 = .ok (.aload_n 0, 1) := by decide +kernel
theorem dX5_offerHeld_42 : decode cX5_offerHeld 42 = .ok (.getfield 39, 3) := by decide +kernel
theorem dX5_offerHeld_45 : decode cX5_offerHeld 45 = .ok (.iload_n 2, 1) := by decide +kernel
theorem dX5_offerHeld_46 : decode cX5_offerHeld 46 = .ok (.iload_n 3, 1) := by decide +kernel
theorem dX5_offerHeld_47 : decode cX5_offerHeld 47 = .ok (.iconst 1, 1) := by decide +kernel
theorem dX5_offerHeld_48 : decode cX5_offerHeld 48 = .ok (.iadd, 1) := by decide +kernel
theorem dX5_offerHeld_49 : decode cX5_offerHeld 49 = .ok (.iastore, 1) := by decide +kernel
theorem dX5_offerHeld_50 : decode cX5_offerHeld 50 = .ok (.aload_n 0, 1) := by decide +kernel
theorem dX5_offerHeld_51 : decode cX5_offerHeld 51 = .ok (.iload_n 3, 1) := by decide +kernel
theorem dX5_offerHeld_52 : decode cX5_offerHeld 52 = .ok (.invokevirtual 121, 3) := by decide +kernel
theorem dX5_offerHeld_55 : decode cX5_offerHeld 55 = .ok (.iinc 2 1, 3) := by decide +kernel
theorem dX5_offerHeld_58 : decode cX5_offerHeld 58 = .ok (.goto (-56), 3) := by decide +kernel
theorem dX5_offerHeld_61 : decode cX5_offerHeld 61 = .ok (.return_, 1) := by decide +kernel
theorem dX5_waits_0 : decode cX5_waits 0 = .ok (.aload_n 0, 1) := by decide +kernel
theorem dX5_waits_1 : decode cX5_waits 1 = .ok (.getfield 55, 3) := by decide +kernel
theorem dX5_waits_4 : decode cX5_waits 4 = .ok (.ifCond .eq 22, 3) := by decide +kernel
theorem dX5_waits_7 : decode cX5_waits 7 = .ok (.aload_n 0, 1) := by decide +kernel
theorem dX5_waits_8 : decode cX5_waits 8 = .ok (.getfield 42, 3) := by decide +kernel
theorem dX5_waits_11 : decode cX5_waits 11 = .ok (.getfield 125, 3) := by decide +kernel
theorem dX5_waits_14 : decode cX5_waits 14 = .ok (.iload_n 1, 1) := by decide +kernel
theorem dX5_waits_15 : decode cX5_waits 15 = .ok (.aaload, 1) := by decide +kernel
theorem dX5_waits_16 : decode cX5_waits 16 = .ok (.instanceof 129, 3) := by decide +kernel
theorem dX5_waits_19 : decode cX5_waits 19 = .ok (.ifCond .eq 7, 3) := by decide +kernel
theorem dX5_waits_22 : decode cX5_waits 22 = .ok (.iconst 1, 1) := by decide +kernel
theorem dX5_waits_23 : decode cX5_waits 23 = .ok (.goto 4, 3) := by decide +kernel
theorem dX5_waits_26 : decode cX5_waits 26 = .ok (.iconst 0, 1) := by decide +kernel
theorem dX5_waits_27 : decode cX5_waits 27 = .ok (.ireturn, 1) := by decide +kernel
theorem dX5_isHalted_0 : decode cX5_isHalted 0 = .ok (.aload_n 0, 1) := by decide +kernel
theorem dX5_isHalted_1 : decode cX5_isHalted 1 = .ok (.getfield 42, 3) := by decide +kernel
theorem dX5_isHalted_4 : decode cX5_isHalted 4 = .ok (.getfield 125, 3) := by decide +kernel
theorem dX5_isHalted_7 : decode cX5_isHalted 7 = .ok (.iload_n 1, 1) := by decide +kernel
theorem dX5_isHalted_8 : decode cX5_isHalted 8 = .ok (.aaload, 1) := by decide +kernel
theorem dX5_isHalted_9 : decode cX5_isHalted 9 = .ok (.astore_n 3, 1) := by decide +kernel
theorem dX5_isHalted_10 : decode cX5_isHalted 10 = .ok (.aload_n 3, 1) := by decide +kernel
theorem dX5_isHalted_11 : decode cX5_isHalted 11 = .ok (.instanceof 129, 3) := by decide +kernel
theorem dX5_isHalted_14 : decode cX5_isHalted 14 = .ok (.ifCond .eq 29, 3) := by decide +kernel
theorem dX5_isHalted_17 : decode cX5_isHalted 17 = .ok (.aload_n 3, 1) := by decide +kernel
theorem dX5_isHalted_18 : decode cX5_isHalted 18 = .ok (.checkcast 129, 3) := by decide +kernel
theorem dX5_isHalted_21 : decode cX5_isHalted 21 = .ok (.astore_n 2, 1) := by decide +kernel
theorem dX5_isHalted_22 : decode cX5_isHalted 22 = .ok (.aload_n 0, 1) := by decide +kernel
theorem dX5_isHalted_23 : decode cX5_isHalted 23 = .ok (.getfield 36, 3) := by decide +kernel
theorem dX5_isHalted_26 : decode cX5_isHalted 26 = .ok (.iload_n 1, 1) := by decide +kernel
theorem dX5_isHalted_27 : decode cX5_isHalted 27 = .ok (.iaload, 1) := by decide +kernel
theorem dX5_isHalted_28 : decode cX5_isHalted 28 = .ok (.aload_n 2, 1) := by decide +kernel
theorem dX5_isHalted_29 : decode cX5_isHalted 29 = .ok (.getfield 131, 3) := by decide +kernel
theorem dX5_isHalted_32 : decode cX5_isHalted 32 = .ok (.ishr, 1) := by decide +kernel
theorem dX5_isHalted_33 : decode cX5_isHalted 33 = .ok (.iconst 1, 1) := by decide +kernel
theorem dX5_isHalted_34 : decode cX5_isHalted 34 = .ok (.iand, 1) := by decide +kernel
theorem dX5_isHalted_35 : decode cX5_isHalted 35 = .ok (.iconst 1, 1) := by decide +kernel
theorem dX5_isHalted_36 : decode cX5_isHalted 36 = .ok (.if_icmp .ne 7, 3) := by decide +kernel
theorem dX5_isHalted_39 : decode cX5_isHalted 39 = .ok (.iconst 1, 1) := by decide +kernel
theorem dX5_isHalted_40 : decode cX5_isHalted 40 = .ok (.goto 4, 3) := by decide +kernel
theorem dX5_isHalted_43 : decode cX5_isHalted 43 = .ok (.iconst 0, 1) := by decide +kernel
theorem dX5_isHalted_44 : decode cX5_isHalted 44 = .ok (.ireturn, 1) := by decide +kernel
theorem dX5_nextWaiting_0 : decode cX5_nextWaiting 0 = .ok (.aload_n 0, 1) := by decide +kernel
theorem dX5_nextWaiting_1 : decode cX5_nextWaiting 1 = .ok (.getfield 39, 3) := by decide +kernel
theorem dX5_nextWaiting_4 : decode cX5_nextWaiting 4 = .ok (.iload_n 2, 1) := by decide +kernel
theorem dX5_nextWaiting_5 : decode cX5_nextWaiting 5 = .ok (.iaload, 1) := by decide +kernel
theorem dX5_nextWaiting_6 : decode cX5_nextWaiting 6 = .ok (.istore_n 3, 1) := by decide +kernel
theorem dX5_nextWaiting_7 : decode cX5_nextWaiting 7 = .ok (.iload_n 3, 1) := by decide +kernel
theorem dX5_nextWaiting_8 : decode cX5_nextWaiting 8 = .ok (.aload_n 1, 1) := by decide +kernel
theorem dX5_nextWaiting_9 : decode cX5_nextWaiting 9 = .ok (.getfield 86, 3) := by decide +kernel
