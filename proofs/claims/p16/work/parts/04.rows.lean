theorem dX0_init_0 : decode cX0_init 0 = .ok (.aload_n 0, 1) := by decide +kernel
theorem dX0_init_1 : decode cX0_init 1 = .ok (.invokespecial 5, 3) := by decide +kernel
theorem dX0_init_4 : decode cX0_init 4 = .ok (.aload_n 0, 1) := by decide +kernel
theorem dX0_init_5 : decode cX0_init 5 = .ok (.sipush 1024, 3) := by decide +kernel
theorem dX0_init_8 : decode cX0_init 8 = .ok (.newarray .int, 2) := by decide +kernel
theorem dX0_init_10 : decode cX0_init 10 = .ok (.putfield 11, 3) := by decide +kernel
theorem dX0_init_13 : decode cX0_init 13 = .ok (.aload_n 0, 1) := by decide +kernel
theorem dX0_init_14 : decode cX0_init 14 = .ok (.bipush 10, 2) := by decide +kernel
theorem dX0_init_16 : decode cX0_init 16 = .ok (.newarray .int, 2) := by decide +kernel
theorem dX0_init_18 : decode cX0_init 18 = .ok (.putfield 17, 3) := by decide +kernel
theorem dX0_init_21 : decode cX0_init 21 = .ok (.return_, 1) := by decide +kernel
theorem dX0_forget_0 : decode cX0_forget 0 = .ok (.aload_n 0, 1) := by decide +kernel
theorem dX0_forget_1 : decode cX0_forget 1 = .ok (.iconst 0, 1) := by decide +kernel
theorem dX0_forget_2 : decode cX0_forget 2 = .ok (.putfield 20, 3) := by decide +kernel
theorem dX0_forget_5 : decode cX0_forget 5 = .ok (.return_, 1) := by decide +kernel
theorem dX0_callsAhead_0 : decode cX0_callsAhead 0 = .ok (.aload_n 0, 1) := by decide +kernel
theorem dX0_callsAhead_1 : decode cX0_callsAhead 1 = .ok (.aload_n 1, 1) := by decide +kernel
theorem dX0_callsAhead_2 : decode cX0_callsAhead 2 = .ok (.invokevirtual 24, 3) := by decide +kernel
theorem dX0_callsAhead_5 : decode cX0_callsAhead 5 = .ok (.aload_n 0, 1) := by decide +kernel
theorem dX0_callsAhead_6 : decode cX0_callsAhead 6 = .ok (.getfield 11, 3) := by decide +kernel
theorem dX0_callsAhead_9 : decode cX0_callsAhead 9 = .ok (.iconst 0, 1) := by decide +kernel
theorem dX0_callsAhead_10 : decode cX0_callsAhead 10 = .ok (.iaload, 1) := by decide +kernel
theorem dX0_callsAhead_11 : decode cX0_callsAhead 11 = .ok (.ireturn, 1) := by decide +kernel
theorem dX0_functionAt_0 : decode cX0_functionAt 0 = .ok (.aload_n 0, 1) := by decide +kernel
theorem dX0_functionAt_1 : decode cX0_functionAt 1 = .ok (.aload_n 1, 1) := by decide +kernel
theorem dX0_functionAt_2 : decode cX0_functionAt 2 = .ok (.invokevirtual 24, 3) := by decide +kernel
theorem dX0_functionAt_5 : decode cX0_functionAt 5 = .ok (.iload_n 2, 1) := by decide +kernel
theorem dX0_functionAt_6 : decode cX0_functionAt 6 = .ok (.ifCond .lt 21, 3) := by decide +kernel
theorem dX0_functionAt_9 : decode cX0_functionAt 9 = .ok (.iload_n 2, 1) := by decide +kernel
theorem dX0_functionAt_10 : decode cX0_functionAt 10 = .ok (.aload_n 0, 1) := by decide +kernel
theorem dX0_functionAt_11 : decode cX0_functionAt 11 = .ok (.getfield 17, 3) := by decide +kernel
theorem dX0_functionAt_14 : decode cX0_functionAt 14 = .ok (.arraylength, 1) := by decide +kernel
theorem dX0_functionAt_15 : decode cX0_functionAt 15 = .ok (.if_icmp .ge 12, 3) := by decide +kernel
theorem dX0_functionAt_18 : decode cX0_functionAt 18 = .ok (.aload_n 0, 1) := by decide +kernel
theorem dX0_functionAt_19 : decode cX0_functionAt 19 = .ok (.getfield 17, 3) := by decide +kernel
theorem dX0_functionAt_22 : decode cX0_functionAt 22 = .ok (.iload_n 2, 1) := by decide +kernel
theorem dX0_functionAt_23 : decode cX0_functionAt 23 = .ok (.iaload, 1) := by decide +kernel
theorem dX0_functionAt_24 : decode cX0_functionAt 24 = .ok (.goto 4, 3) := by decide +kernel
theorem dX0_functionAt_27 : decode cX0_functionAt 27 = .ok (.iconst (-1), 1) := by decide +kernel
theorem dX0_functionAt_28 : decode cX0_functionAt 28 = .ok (.ireturn, 1) := by decide +kernel
theorem dX0_find_0 : decode cX0_find 0 = .ok (.aload_n 0, 1) := by decide +kernel
theorem dX0_find_1 : decode cX0_find 1 = .ok (.getfield 20, 3) := by decide +kernel
theorem dX0_find_4 : decode cX0_find 4 = .ok (.ifCond .eq 4, 3) := by decide +kernel
theorem dX0_find_7 : decode cX0_find 7 = .ok (.return_, 1) := by decide +kernel
theorem dX0_find_8 : decode cX0_find 8 = .ok (.iconst 1, 1) := by decide +kernel
theorem dX0_find_9 : decode cX0_find 9 = .ok (.aload_n 1, 1) := by decide +kernel
theorem dX0_find_10 : decode cX0_find 10 = .ok (.getfield 28, 3) := by decide +kernel
theorem dX0_find_13 : decode cX0_find 13 = .ok (.ishl, 1) := by decide +kernel
theorem dX0_find_14 : decode cX0_find 14 = .ok (.aload_n 0, 1) := by decide +kernel
theorem dX0_find_15 : decode cX0_find 15 = .ok (.getfield 11, 3) := by decide +kernel
theorem dX0_find_18 : decode cX0_find 18 = .ok (.arraylength, 1) := by decide +kernel
theorem dX0_find_19 : decode cX0_find 19 = .ok (.invokestatic 32, 3) := by decide +kernel
theorem dX0_find_22 : decode cX0_find 22 = .ok (.iconst 1, 1) := by decide +kernel
theorem dX0_find_23 : decode cX0_find 23 = .ok (.isub, 1) := by decide +kernel
theorem dX0_find_24 : decode cX0_find 24 = .ok (.istore_n 2, 1) := by decide +kernel
theorem dX0_find_25 : decode cX0_find 25 = .ok (.aload_n 0, 1) := by decide +kernel
theorem dX0_find_26 : decode cX0_find 26 = .ok (.getfield 11, 3) := by decide +kernel
theorem dX0_find_29 : decode cX0_find 29 = .ok (.iload_n 2, 1) := by decide +kernel
theorem dX0_find_30 : decode cX0_find 30 = .ok (.iconst 0, 1) := by decide +kernel
theorem dX0_find_31 : decode cX0_find 31 = .ok (.iastore, 1) := by decide +kernel
theorem dX0_find_32 : decode cX0_find 32 = .ok (.iload_n 2, 1) := by decide +kernel
theorem dX0_find_33 : decode cX0_find 33 = .ok (.iconst 1, 1) := by decide +kernel
theorem dX0_find_34 : decode cX0_find 34 = .ok (.isub, 1) := by decide +kernel
theorem dX0_find_35 : decode cX0_find 35 = .ok (.istore_n 3, 1) := by decide +kernel
theorem dX0_find_36 : decode cX0_find 36 = .ok (.iload_n 3, 1) := by decide +kernel
theorem dX0_find_37 : decode cX0_find 37 = .ok (.ifCond .lt 27, 3) := by decide +kernel
theorem dX0_find_40 : decode cX0_find 40 = .ok (.aload_n 0, 1) := by decide +kernel
theorem dX0_find_41 : decode cX0_find 41 = .ok (.getfield 11, 3) := by decide +kernel
theorem dX0_find_44 : decode cX0_find 44 = .ok (.iload_n 3, 1) := by decide +kernel
theorem dX0_find_45 : decode cX0_find 45 = .ok (.aload_n 0, 1) := by decide +kernel
theorem dX0_find_46 : decode cX0_find 46 = .ok (.aload_n 1, 1) := by decide +kernel
theorem dX0_find_47 : decode cX0_find 47 = .ok (.iload_n 3, 1) := by decide +kernel
theorem dX0_find_48 : decode cX0_find 48 = .ok (.aload_n 0, 1) := by decide +kernel
theorem dX0_find_49 : decode cX0_find 49 = .ok (.aload_n 1, 1) := by decide +kernel
theorem dX0_find_50 : decode cX0_find 50 = .ok (.iload_n 3, 1) := by decide +kernel
theorem dX0_find_51 : decode cX0_find 51 = .ok (.invokevirtual 38, 3) := by decide +kernel
theorem dX0_find_54 : decode cX0_find 54 = .ok (.invokevirtual 42, 3) := by decide +kernel
theorem dX0_find_57 : decode cX0_find 57 = .ok (.iastore, 1) := by decide +kernel
theorem dX0_find_58 : decode cX0_find 58 = .ok (.iinc 3 (-1), 3) := by decide +kernel
theorem dX0_find_61 : decode cX0_find 61 = .ok (.goto (-25), 3) := by decide +kernel
theorem dX0_find_64 : decode cX0_find 64 = .ok (.iconst 0, 1) := by decide +kernel
theorem dX0_find_65 : decode cX0_find 65 = .ok (.istore_n 3, 1) := by decide +kernel
theorem dX0_find_66 : decode cX0_find 66 = .ok (.iconst 0, 1) := by decide +kernel
theorem dX0_find_67 : decode cX0_find 67 = .ok (.istore 4, 2) := by decide +kernel
theorem dX0_find_69 : decode cX0_find 69 = .ok (.iload 4, 2) := by decide +kernel
theorem dX0_find_71 : decode cX0_find 71 = .ok (.aload_n 1, 1) := by decide +kernel
theorem dX0_find_72 : decode cX0_find 72 = .ok (.getfield 28, 3) := by decide +kernel
theorem dX0_find_75 : decode cX0_find 75 = .ok (.if_icmp .ge 44, 3) := by decide +kernel
theorem dX0_find_78 : decode cX0_find 78 = .ok (.iload 4, 2) := by decide +kernel
theorem dX0_find_80 : decode cX0_find 80 = .ok (.aload_n 0, 1) := by decide +kernel
theorem dX0_find_81 : decode cX0_find 81 = .ok (.getfield 17, 3) := by decide +kernel
theorem dX0_find_84 : decode cX0_find 84 = .ok (.arraylength, 1) := by decide +kernel
theorem dX0_find_85 : decode cX0_find 85 = .ok (.if_icmp .ge 34, 3) := by decide +kernel
theorem dX0_find_88 : decode cX0_find 88 = .ok (.aload_n 0, 1) := by decide +kernel
theorem dX0_find_89 : decode cX0_find 89 = .ok (.getfield 17, 3) := by decide +kernel
theorem dX0_find_92 : decode cX0_find 92 = .ok (.iload 4, 2) := by decide +kernel
theorem dX0_find_94 : decode cX0_find 94 = .ok (.aload_n 0, 1) := by decide +kernel
theorem dX0_find_95 : decode cX0_find 95 = .ok (.aload_n 1, 1) := by decide +kernel
theorem dX0_find_96 : decode cX0_find 96 = .ok (.iload_n 3, 1) := by decide +kernel
theorem dX0_find_97 : decode cX0_find 97 = .ok (.invokevirtual 38, 3) := by decide +kernel
theorem dX0_find_100 : decode cX0_find 100 = .ok (.iastore, 1) := by decide +kernel
theorem dX0_find_101 : decode cX0_find 101 = .ok (.iload_n 3, 1) := by decide +kernel
theorem dX0_find_102 : decode cX0_find 102 = .ok (.iconst 1, 1) := by decide +kernel
theorem dX0_find_103 : decode cX0_find 103 = .ok (.aload_n 0, 1) := by decide +kernel
theorem dX0_find_104 : decode cX0_find 104 = .ok (.getfield 17, 3) := by decide +kernel
theorem dX0_find_107 : decode cX0_find 107 = .ok (.iload 4, 2) := by decide +kernel
theorem dX0_find_109 : decode cX0_find 109 = .ok (.iaload, 1) := by decide +kernel
theorem dX0_find_110 : decode cX0_find 110 = .ok (.ishl, 1) := by decide +kernel
theorem dX0_find_111 : decode cX0_find 111 = .ok (.ior, 1) := by decide +kernel
theorem dX0_find_112 : decode cX0_find 112 = .ok (.istore_n 3, 1) := by decide +kernel
theorem dX0_find_113 : decode cX0_find 113 = .ok (.iinc 4 1, 3) := by decide +kernel
theorem dX0_find_116 : decode cX0_find 116 = .ok (.goto (-47), 3) := by decide +kernel
theorem dX0_find_119 : decode cX0_find 119 = .ok (.aload_n 0, 1) := by decide +kernel
theorem dX0_find_120 : decode cX0_find 120 = .ok (.iconst 1, 1) := by decide +kernel
theorem dX0_find_121 : decode cX0_find 121 = .ok (.putfield 20, 3) := by decide +kernel
theorem dX0_find_124 : decode cX0_find 124 = .ok (.return_, 1) := by decide +kernel
theorem dX0_firstOfBest_0 : decode cX0_firstOfBest 0 = .ok (.iconst 0, 1) := by decide +kernel
theorem dX0_firstOfBest_1 : decode cX0_firstOfBest 1 = .ok (.istore_n 3, 1) := by decide +kernel
theorem dX0_firstOfBest_2 : decode cX0_firstOfBest 2 = .ok (.bipush 100, 2) := by decide +kernel
theorem dX0_firstOfBest_4 : decode cX0_firstOfBest 4 = .ok (.istore 4, 2) := by decide +kernel
theorem dX0_firstOfBest_6 : decode cX0_firstOfBest 6 = .ok (.iconst 0, 1) := by decide +kernel
theorem dX0_firstOfBest_7 : decode cX0_firstOfBest 7 = .ok (.istore 5, 2) := by decide +kernel
theorem dX0_firstOfBest_9 : decode cX0_firstOfBest 9 = .ok (.iload 5, 2) := by decide +kernel
theorem dX0_firstOfBest_11 : decode cX0_firstOfBest 11 = .ok (.aload_n 1, 1) := by decide +kernel
theorem dX0_firstOfBest_12 : decode cX0_firstOfBest 12 = .ok (.getfield 28, 3) := by decide +kernel
theorem dX0_firstOfBest_15 : decode cX0_firstOfBest 15 = .ok (.if_icmp .ge 59, 3) := by decide +kernel
theorem dX0_firstOfBest_18 : decode cX0_firstOfBest 18 = .ok (.iload_n 2, 1) := by decide +kernel
theorem dX0_firstOfBest_19 : decode cX0_firstOfBest 19 = .ok (.iload 5, 2) := by decide +kernel
theorem dX0_firstOfBest_21 : decode cX0_firstOfBest 21 = .ok (.ishr, 1) := by decide +kernel
theorem dX0_firstOfBest_22 : decode cX0_firstOfBest 22 = .ok (.iconst 1, 1) := by decide +kernel
theorem dX0_firstOfBest_23 : decode cX0_firstOfBest 23 = .ok (.iand, 1) := by decide +kernel
theorem dX0_firstOfBest_24 : decode cX0_firstOfBest 24 = .ok (.ifCond .eq 7, 3) := by decide +kernel
theorem dX0_firstOfBest_27 : decode cX0_firstOfBest 27 = .ok (.iconst 1, 1) := by decide +kernel
theorem dX0_firstOfBest_28 : decode cX0_firstOfBest 28 = .ok (.goto 4, 3) := by decide +kernel
theorem dX0_firstOfBest_31 : decode cX0_firstOfBest 31 = .ok (.iconst 0, 1) := by decide +kernel
theorem dX0_firstOfBest_32 : decode cX0_firstOfBest 32 = .ok (.istore 6, 2) := by decide +kernel
theorem dX0_firstOfBest_34 : decode cX0_firstOfBest 34 = .ok (.iload 6, 2) := by decide +kernel
theorem dX0_firstOfBest_36 : decode cX0_firstOfBest 36 = .ok (.ifCond .eq 8, 3) := by decide +kernel
theorem dX0_firstOfBest_39 : decode cX0_firstOfBest 39 = .ok (.bipush 100, 2) := by decide +kernel
theorem dX0_firstOfBest_41 : decode cX0_firstOfBest 41 = .ok (.goto 11, 3) := by decide +kernel
theorem dX0_firstOfBest_44 : decode cX0_firstOfBest 44 = .ok (.aload_n 0, 1) := by decide +kernel
theorem dX0_firstOfBest_45 : decode cX0_firstOfBest 45 = .ok (.aload_n 1, 1) := by decide +kernel
theorem dX0_firstOfBest_46 : decode cX0_firstOfBest 46 = .ok (.iload_n 2, 1) := by decide +kernel
theorem dX0_firstOfBest_47 : decode cX0_firstOfBest 47 = .ok (.iload 5, 2) := by decide +kernel
theorem dX0_firstOfBest_49 : decode cX0_firstOfBest 49 = .ok (.invokevirtual 42, 3) := by decide +kernel
theorem dX0_firstOfBest_52 : decode cX0_firstOfBest 52 = .ok (.istore 7, 2) := by decide +kernel
theorem dX0_firstOfBest_54 : decode cX0_firstOfBest 54 = .ok (.iload 7, 2) := by decide +kernel
theorem dX0_firstOfBest_56 : decode cX0_firstOfBest 56 = .ok (.iload 4, 2) := by decide +kernel
theorem dX0_firstOfBest_58 : decode cX0_firstOfBest 58 = .ok (.if_icmp .ge 10, 3) := by decide +kernel
theorem dX0_firstOfBest_61 : decode cX0_firstOfBest 61 = .ok (.iload 7, 2) := by decide +kernel
theorem dX0_firstOfBest_63 : decode cX0_firstOfBest 63 = .ok (.istore 4, 2) := by decide +kernel
theorem dX0_firstOfBest_65 : decode cX0_firstOfBest 65 = .ok (.iload 5, 2) := by decide +kernel
theorem dX0_firstOfBest_67 : decode cX0_firstOfBest 67 = .ok (.istore_n 3, 1) := by decide +kernel
theorem dX0_firstOfBest_68 : decode cX0_firstOfBest 68 = .ok (.iinc 5 1, 3) := by decide +kernel
theorem dX0_firstOfBest_71 : decode cX0_firstOfBest 71 = .ok (.goto (-62), 3) := by decide +kernel
theorem dX0_firstOfBest_74 : decode cX0_firstOfBest 74 = .ok (.iload_n 3, 1) := by decide +kernel
theorem dX0_firstOfBest_75 : decode cX0_firstOfBest 75 = .ok (.ireturn, 1) := by decide +kernel
theorem dX0_costBehind_0 : decode cX0_costBehind 0 = .ok (.iload_n 2, 1) := by decide +kernel
theorem dX0_costBehind_1 : decode cX0_costBehind 1 = .ok (.iconst 1, 1) := by decide +kernel
theorem dX0_costBehind_2 : decode cX0_costBehind 2 = .ok (.iload_n 3, 1) := by decide +kernel
theorem dX0_costBehind_3 : decode cX0_costBehind 3 = .ok (.ishl, 1) := by decide +kernel
theorem dX0_costBehind_4 : decode cX0_costBehind 4 = .ok (.ior, 1) := by decide +kernel
theorem dX0_costBehind_5 : decode cX0_costBehind 5 = .ok (.istore 4, 2) := by decide +kernel
theorem dX0_costBehind_7 : decode cX0_costBehind 7 = .ok (.aload_n 1, 1) := by decide +kernel
theorem dX0_costBehind_8 : decode cX0_costBehind 8 = .ok (.iload_n 3, 1) := by decide +kernel
theorem dX0_costBehind_9 : decode cX0_costBehind 9 = .ok (.invokevirtual 46, 3) := by decide +kernel
theorem dX0_costBehind_12 : decode cX0_costBehind 12 = .ok (.ifCond .eq 18, 3) := by decide +kernel
theorem dX0_costBehind_15 : decode cX0_costBehind 15 = .ok (.iload 4, 2) := by decide +kernel
theorem dX0_costBehind_17 : decode cX0_costBehind 17 = .ok (.ifCond .lt 13, 3) := by decide +kernel
theorem dX0_costBehind_20 : decode cX0_costBehind 20 = .ok (.iload 4, 2) := by decide +kernel
theorem dX0_costBehind_22 : decode cX0_costBehind 22 = .ok (.aload_n 0, 1) := by decide +kernel
theorem dX0_costBehind_23 : decode cX0_costBehind 23 = .ok (.getfield 11, 3) := by decide +kernel
theorem dX0_costBehind_26 : decode cX0_costBehind 26 = .ok (.arraylength, 1) := by decide +kernel
theorem dX0_costBehind_27 : decode cX0_costBehind 27 = .ok (.if_icmp .lt 5, 3) := by decide +kernel
theorem dX0_costBehind_30 : decode cX0_costBehind 30 = .ok (.iconst 0, 1) := by decide +kernel
theorem dX0_costBehind_31 : decode cX0_costBehind 31 = .ok (.ireturn, 1) := by decide +kernel
theorem dX0_costBehind_32 : decode cX0_costBehind 32 = .ok (.aload_n 1, 1) := by decide +kernel
theorem dX0_costBehind_33 : decode cX0_costBehind 33 = .ok (.getfield 50, 3) := by decide +kernel
theorem dX0_costBehind_36 : decode cX0_costBehind 36 = .ok (.iload_n 3, 1) := by decide +kernel
theorem dX0_costBehind_37 : decode cX0_costBehind 37 = .ok (.aaload, 1) := by decide +kernel
theorem dX0_costBehind_38 : decode cX0_costBehind 38 = .ok (.getfield 54, 3) := by decide +kernel
theorem dX0_costBehind_41 : decode cX0_costBehind 41 = .ok (.iload 4, 2) := by decide +kernel
theorem dX0_costBehind_43 : decode cX0_costBehind 43 = .ok (.iconst (-1), 1) := by decide +kernel
theorem dX0_costBehind_44 : decode cX0_costBehind 44 = .ok (.ixor, 1) := by decide +kernel
theorem dX0_costBehind_45 : decode cX0_costBehind 45 = .ok (.iand, 1) := by decide +kernel
theorem dX0_costBehind_46 : decode cX0_costBehind 46 = .ok (.invokestatic 59, 3) := by decide +kernel
theorem dX0_costBehind_49 : decode cX0_costBehind 49 = .ok (.aload_n 0, 1) := by decide +kernel
theorem dX0_costBehind_50 : decode cX0_costBehind 50 = .ok (.getfield 11, 3) := by decide +kernel
theorem dX0_costBehind_53 : decode cX0_costBehind 53 = .ok (.iload 4, 2) := by decide +kernel
theorem dX0_costBehind_55 : decode cX0_costBehind 55 = .ok (.iaload, 1) := by decide +kernel
theorem dX0_costBehind_56 : decode cX0_costBehind 56 = .ok (.iadd, 1) := by decide +kernel
theorem dX0_costBehind_57 : decode cX0_costBehind 57 = .ok (.ireturn, 1) := by decide +kernel
theorem dX1_init_0 : decode cX1_init 0 = .ok (.aload_n 0, 1) := by decide +kernel
theorem dX1_init_1 : decode cX1_init 1 = .ok (.invokespecial 3, 3) := by decide +kernel
theorem dX1_init_4 : decode cX1_init 4 = .ok (.aload_n 0, 1) := by decide +kernel
theorem dX1_init_5 : decode cX1_init 5 = .ok (.sipush 1200, 3) := by decide +kernel
theorem dX1_init_8 : decode cX1_init 8 = .ok (.newarray .int, 2) := by decide +kernel
theorem dX1_init_10 : decode cX1_init 10 = .ok (.putfield 11, 3) := by decide +kernel
theorem dX1_init_13 : decode cX1_init 13 = .ok (.aload_n 0, 1) := by decide +kernel
theorem dX1_init_14 : decode cX1_init 14 = .ok (.sipush 1200, 3) := by decide +kernel
theorem dX1_init_17 : decode cX1_init 17 = .ok (.newarray .int, 2) := by decide +kernel
theorem dX1_init_19 : decode cX1_init 19 = .ok (.putfield 15, 3) := by decide +kernel
theorem dX1_init_22 : decode cX1_init 22 = .ok (.aload_n 0, 1) := by decide +kernel
theorem dX1_init_23 : decode cX1_init 23 = .ok (.sipush 1200, 3) := by decide +kernel
theorem dX1_init_26 : decode cX1_init 26 = .ok (.newarray .int, 2) := by decide +kernel
theorem dX1_init_28 : decode cX1_init 28 = .ok (.putfield 18, 3) := by decide +kernel
theorem dX1_init_31 : decode cX1_init 31 = .ok (.return_, 1) := by decide +kernel
theorem dX1_clear_0 : decode cX1_clear 0 = .ok (.aload_n 0, 1) := by decide +kernel
theorem dX1_clear_1 : decode cX1_clear 1 = .ok (.iconst 0, 1) := by decide +kernel
theorem dX1_clear_2 : decode cX1_clear 2 = .ok (.putfield 21, 3) := by decide +kernel
theorem dX1_clear_5 : decode cX1_clear 5 = .ok (.return_, 1) := by decide +kernel
theorem dX1_add_0 : decode cX1_add 0 = .ok (.aload_n 0, 1) := by decide +kernel
theorem dX1_add_1 : decode cX1_add 1 = .ok (.getfield 21, 3) := by decide +kernel
theorem dX1_add_4 : decode cX1_add 4 = .ok (.aload_n 0, 1) := by decide +kernel
theorem dX1_add_5 : decode cX1_add 5 = .ok (.getfield 11, 3) := by decide +kernel
theorem dX1_add_8 : decode cX1_add 8 = .ok (.arraylength, 1) := by decide +kernel
theorem dX1_add_9 : decode cX1_add 9 = .ok (.if_icmp .lt 5, 3) := by decide +kernel
theorem dX1_add_12 : decode cX1_add 12 = .ok (.iconst (-1), 1) := by decide +kernel
theorem dX1_add_13 : decode cX1_add 13 = .ok (.ireturn, 1) := by decide +kernel
theorem dX1_add_14 : decode cX1_add 14 = .ok (.aload_n 0, 1) := by decide +kernel
theorem dX1_add_15 : decode cX1_add 15 = .ok (.getfield 11, 3) := by decide +kernel
theorem dX1_add_18 : decode cX1_add 18 = .ok (.aload_n 0, 1) := by decide +kernel
theorem dX1_add_19 : decode cX1_add 19 = .ok (.getfield 21, 3) := by decide +kernel
theorem dX1_add_22 : decode cX1_add 22 = .ok (.iload_n 1, 1) := by decide +kernel
theorem dX1_add_23 : decode cX1_add 23 = .ok (.iastore, 1) := by decide +kernel
theorem dX1_add_24 : decode cX1_add 24 = .ok (.aload_n 0, 1) := by decide +kernel
theorem dX1_add_25 : decode cX1_add 25 = .ok (.getfield 15, 3) := by decide +kernel
theorem dX1_add_28 : decode cX1_add 28 = .ok (.aload_n 0, 1) := by decide +kernel
theorem dX1_add_29 : decode cX1_add 29 = .ok (.getfield 21, 3) := by decide +kernel
theorem dX1_add_32 : decode cX1_add 32 = .ok (.iload_n 2, 1) := by decide +kernel
theorem dX1_add_33 : decode cX1_add 33 = .ok (.iastore, 1) := by decide +kernel
theorem dX1_add_34 : decode cX1_add 34 = .ok (.aload_n 0, 1) := by decide +kernel
theorem dX1_add_35 : decode cX1_add 35 = .ok (.getfield 18, 3) := by decide +kernel
theorem dX1_add_38 : decode cX1_add 38 = .ok (.aload_n 0, 1) := by decide +kernel
theorem dX1_add_39 : decode cX1_add 39 = .ok (.getfield 21, 3) := by decide +kernel
theorem dX1_add_42 : decode cX1_add 42 = .ok (.iload_n 3, 1) := by decide +kernel
theorem dX1_add_43 : decode cX1_add 43 = .ok (.iastore, 1) := by decide +kernel
theorem dX1_add_44 : decode cX1_add 44 = .ok (.aload_n 0, 1) := by decide +kernel
theorem dX1_add_45 : decode cX1_add 45 = .ok (.dup, 1) := by decide +kernel
theorem dX1_add_46 : decode cX1_add 46 = .ok (.getfield 21, 3) := by decide +kernel
theorem dX1_add_49 : decode cX1_add 49 = .ok (.iconst 1, 1) := by decide +kernel
theorem dX1_add_50 : decode cX1_add 50 = .ok (.iadd, 1) := by decide +kernel
theorem dX1_add_51 : decode cX1_add 51 = .ok (.putfield 21, 3) := by decide +kernel
theorem dX1_add_54 : decode cX1_add 54 = .ok (.aload_n 0, 1) := by decide +kernel
theorem dX1_add_55 : decode cX1_add 55 = .ok (.getfield 21, 3) := by decide +kernel
theorem dX1_add_58 : decode cX1_add 58 = .ok (.iconst 1, 1) := by decide +kernel
theorem dX1_add_59 : decode cX1_add 59 = .ok (.isub, 1) := by decide +kernel
theorem dX1_add_60 : decode cX1_add 60 = .ok (.ireturn, 1) := by decide +kernel
theorem dX1_setNumber_0 : decode cX1_setNumber 0 = .ok (.aload_n 0, 1) := by decide +kernel
theorem dX1_setNumber_1 : decode cX1_setNumber 1 = .ok (.iload_n 1, 1) := by decide +kernel
theorem dX1_setNumber_2 : decode cX1_setNumber 2 = .ok (.invokevirtual 25, 3) := by decide +kernel
theorem dX1_setNumber_5 : decode cX1_setNumber 5 = .ok (.ifCond .eq 10, 3) := by decide +kernel
theorem dX1_setNumber_8 : decode cX1_setNumber 8 = .ok (.aload_n 0, 1) := by decide +kernel
theorem dX1_setNumber_9 : decode cX1_setNumber 9 = .ok (.getfield 15, 3) := by decide +kernel
theorem dX1_setNumber_12 : decode cX1_setNumber 12 = .ok (.iload_n 1, 1) := by decide +kernel
theorem dX1_setNumber_13 : decode cX1_setNumber 13 = .ok (.iload_n 2, 1) := by decide +kernel
theorem dX1_setNumber_14 : decode cX1_setNumber 14 = .ok (.iastore, 1) := by decide +kernel
theorem dX1_setNumber_15 : decode cX1_setNumber 15 = .ok (.return_, 1) := by decide +kernel
theorem dX1_has_0 : decode cX1_has 0 = .ok (.iload_n 1, 1) := by decide +kernel
theorem dX1_has_1 : decode cX1_has 1 = .ok (.ifCond .lt 24, 3) := by decide +kernel
theorem dX1_has_4 : decode cX1_has 4 = .ok (.iload_n 1, 1) := by decide +kernel
theorem dX1_has_5 : decode cX1_has 5 = .ok (.aload_n 0, 1) := by decide +kernel
theorem dX1_has_6 : decode cX1_has 6 = .ok (.getfield 21, 3) := by decide +kernel
theorem dX1_has_9 : decode cX1_has 9 = .ok (.if_icmp .ge 16, 3) := by decide +kernel
theorem dX1_has_12 : decode cX1_has 12 = .ok (.iload_n 1, 1) := by decide +kernel
theorem dX1_has_13 : decode cX1_has 13 = .ok (.aload_n 0, 1) := by decide +kernel
theorem dX1_has_14 : decode cX1_has 14 = .ok (.getfield 11, 3) := by decide +kernel
theorem dX1_has_17 : decode cX1_has 17 = .ok (.arraylength, 1) := by decide +kernel
theorem dX1_has_18 : decode cX1_has 18 = .ok (.if_icmp .ge 7, 3) := by decide +kernel
theorem dX1_has_21 : decode cX1_has 21 = .ok (.iconst 1, 1) := by decide +kernel
theorem dX1_has_22 : decode cX1_has 22 = .ok (.goto 4, 3) := by decide +kernel
theorem dX1_has_25 : decode cX1_has 25 = .ok (.iconst 0, 1) := by decide +kernel
theorem dX1_has_26 : decode cX1_has 26 = .ok (.ireturn, 1) := by decide +kernel
theorem dX2_init_0 : decode cX2_init 0 = .ok (.aload_n 0, 1) := by decide +kernel
theorem dX2_init_1 : decode cX2_init 1 = .ok (.invokespecial 1, 3) := by decide +kernel
theorem dX2_init_4 : decode cX2_init 4 = .ok (.aload_n 0, 1) := by decide +kernel
theorem dX2_init_5 : decode cX2_init 5 = .ok (.iconst 3, 1) := by decide +kernel
theorem dX2_init_6 : decode cX2_init 6 = .ok (.newarray .int, 2) := by decide +kernel
theorem dX2_init_8 : decode cX2_init 8 = .ok (.putfield 9, 3) := by decide +kernel
theorem dX2_init_11 : decode cX2_init 11 = .ok (.return_, 1) := by decide +kernel
theorem dX2_begin_0 : decode cX2_begin 0 = .ok (.aload_n 0, 1) := by decide +kernel
theorem dX2_begin_1 : decode cX2_begin 1 = .ok (.iload_n 1, 1) := by decide +kernel
theorem dX2_begin_2 : decode cX2_begin 2 = .ok (.putfield 13, 3) := by decide +kernel
theorem dX2_begin_5 : decode cX2_begin 5 = .ok (.aload_n 0, 1) := by decide +kernel
theorem dX2_begin_6 : decode cX2_begin 6 = .ok (.iload_n 2, 1) := by decide +kernel
theorem dX2_begin_7 : decode cX2_begin 7 = .ok (.putfield 17, 3) := by decide +kernel
theorem dX2_begin_10 : decode cX2_begin 10 = .ok (.aload_n 0, 1) := by decide +kernel
theorem dX2_begin_11 : decode cX2_begin 11 = .ok (.iload_n 3, 1) := by decide +kernel
theorem dX2_begin_12 : decode cX2_begin 12 = .ok (.putfield 20, 3) := by decide +kernel
theorem dX2_begin_15 : decode cX2_begin 15 = .ok (.aload_n 0, 1) := by decide +kernel
theorem dX2_begin_16 : decode cX2_begin 16 = .ok (.iconst 0, 1) := by decide +kernel
theorem dX2_begin_17 : decode cX2_begin 17 = .ok (.putfield 23, 3) := by decide +kernel
theorem dX2_begin_20 : decode cX2_begin 20 = .ok (.aload_n 0, 1) := by decide +kernel
theorem dX2_begin_21 : decode cX2_begin 21 = .ok (.iconst 0, 1) := by decide +kernel
theorem dX2_begin_22 : decode cX2_begin 22 = .ok (.putfield 26, 3) := by decide +kernel
theorem dX2_begin_25 : decode cX2_begin 25 = .ok (.return_, 1) := by decide +kernel
theorem dX2_hasPlace_0 : decode cX2_hasPlace 0 = .ok (.iconst 0, 1) := by decide +kernel
theorem dX2_hasPlace_1 : decode cX2_hasPlace 1 = .ok (.istore_n 2, 1) := by decide +kernel
theorem dX2_hasPlace_2 : decode cX2_hasPlace 2 = .ok (.iload_n 2, 1) := by decide +kernel
theorem dX2_hasPlace_3 : decode cX2_hasPlace 3 = .ok (.aload_n 0, 1) := by decide +kernel
theorem dX2_hasPlace_4 : decode cX2_hasPlace 4 = .ok (.getfield 26, 3) := by decide +kernel
theorem dX2_hasPlace_7 : decode cX2_hasPlace 7 = .ok (.if_icmp .ge 30, 3) := by decide +kernel
theorem dX2_hasPlace_10 : decode cX2_hasPlace 10 = .ok (.iload_n 2, 1) := by decide +kernel
theorem dX2_hasPlace_11 : decode cX2_hasPlace 11 = .ok (.aload_n 0, 1) := by decide +kernel
theorem dX2_hasPlace_12 : decode cX2_hasPlace 12 = .ok (.getfield 9, 3) := by decide +kernel
theorem dX2_hasPlace_15 : decode cX2_hasPlace 15 = .ok (.arraylength, 1) := by decide +kernel
theorem dX2_hasPlace_16 : decode cX2_hasPlace 16 = .ok (.if_icmp .ge 21, 3) := by decide +kernel
theorem dX2_hasPlace_19 : decode cX2_hasPlace 19 = .ok (.aload_n 0, 1) := by decide +kernel
theorem dX2_hasPlace_20 : decode cX2_hasPlace 20 = .ok (.getfield 9, 3) := by decide +kernel
theorem dX2_hasPlace_23 : decode cX2_hasPlace 23 = .ok (.iload_n 2, 1) := by decide +kernel
theorem dX2_hasPlace_24 : decode cX2_hasPlace 24 = .ok (.iaload, 1) := by decide +kernel
theorem dX2_hasPlace_25 : decode cX2_hasPlace 25 = .ok (.iload_n 1, 1) := by decide +kernel
theorem dX2_hasPlace_26 : decode cX2_hasPlace 26 = .ok (.if_icmp .ne 5, 3) := by decide +kernel
theorem dX2_hasPlace_29 : decode cX2_hasPlace 29 = .ok (.iconst 1, 1) := by decide +kernel
theorem dX2_hasPlace_30 : decode cX2_hasPlace 30 = .ok (.ireturn, 1) := by decide +kernel
theorem dX2_hasPlace_31 : decode cX2_hasPlace 31 = .ok (.iinc 2 1, 3) := by decide +kernel
theorem dX2_hasPlace_34 : decode cX2_hasPlace 34 = .ok (.goto (-32), 3) := by decide +kernel
theorem dX2_hasPlace_37 : decode cX2_hasPlace 37 = .ok (.iconst 0, 1) := by decide +kernel
theorem dX2_hasPlace_38 : decode cX2_hasPlace 38 = .ok (.ireturn, 1) := by decide +kernel
theorem dX2_addPlace_0 : decode cX2_addPlace 0 = .ok (.aload_n 0, 1) := by decide +kernel
theorem dX2_addPlace_1 : decode cX2_addPlace 1 = .ok (.getfield 26, 3) := by decide +kernel
theorem dX2_addPlace_4 : decode cX2_addPlace 4 = .ok (.aload_n 0, 1) := by decide +kernel
theorem dX2_addPlace_5 : decode cX2_addPlace 5 = .ok (.getfield 9, 3) := by decide +kernel
theorem dX2_addPlace_8 : decode cX2_addPlace 8 = .ok (.arraylength, 1) := by decide +kernel
theorem dX2_addPlace_9 : decode cX2_addPlace 9 = .ok (.if_icmp .ge 23, 3) := by decide +kernel
theorem dX2_addPlace_12 : decode cX2_addPlace 12 = .ok (.aload_n 0, 1) := by decide +kernel
theorem dX2_addPlace_13 : decode cX2_addPlace 13 = .ok (.getfield 9, 3) := by decide +kernel
theorem dX2_addPlace_16 : decode cX2_addPlace 16 = .ok (.aload_n 0, 1) := by decide +kernel
theorem dX2_addPlace_17 : decode cX2_addPlace 17 = .ok (.getfield 26, 3) := by decide +kernel
theorem dX2_addPlace_20 : decode cX2_addPlace 20 = .ok (.iload_n 1, 1) := by decide +kernel
theorem dX2_addPlace_21 : decode cX2_addPlace 21 = .ok (.iastore, 1) := by decide +kernel
theorem dX2_addPlace_22 : decode cX2_addPlace 22 = .ok (.aload_n 0, 1) := by decide +kernel
theorem dX2_addPlace_23 : decode cX2_addPlace 23 = .ok (.dup, 1) := by decide +kernel
theorem dX2_addPlace_24 : decode cX2_addPlace 24 = .ok (.getfield 26, 3) := by decide +kernel
theorem dX2_addPlace_27 : decode cX2_addPlace 27 = .ok (.iconst 1, 1) := by decide +kernel
theorem dX2_addPlace_28 : decode cX2_addPlace 28 = .ok (.iadd, 1) := by decide +kernel
theorem dX2_addPlace_29 : decode cX2_addPlace 29 = .ok (.putfield 26, 3) := by decide +kernel
theorem dX2_addPlace_32 : decode cX2_addPlace 32 = .ok (.return_, 1) := by decide +kernel
theorem dX2_placeAt_0 : decode cX2_placeAt 0 = .ok (.iload_n 1, 1) := by decide +kernel
theorem dX2_placeAt_1 : decode cX2_placeAt 1 = .ok (.ifCond .lt 29, 3) := by decide +kernel
theorem dX2_placeAt_4 : decode cX2_placeAt 4 = .ok (.iload_n 1, 1) := by decide +kernel
theorem dX2_placeAt_5 : decode cX2_placeAt 5 = .ok (.aload_n 0, 1) := by decide +kernel
theorem dX2_placeAt_6 : decode cX2_placeAt 6 = .ok (.getfield 26, 3) := by decide +kernel
theorem dX2_placeAt_9 : decode cX2_placeAt 9 = .ok (.if_icmp .ge 21, 3) := by decide +kernel
theorem dX2_placeAt_12 : decode cX2_placeAt 12 = .ok (.iload_n 1, 1) := by decide +kernel
theorem dX2_placeAt_13 : decode cX2_placeAt 13 = .ok (.aload_n 0, 1) := by decide +kernel
theorem dX2_placeAt_14 : decode cX2_placeAt 14 = .ok (.getfield 9, 3) := by decide +kernel
theorem dX2_placeAt_17 : decode cX2_placeAt 17 = .ok (.arraylength, 1) := by decide +kernel
theorem dX2_placeAt_18 : decode cX2_placeAt 18 = .ok (.if_icmp .ge 12, 3) := by decide +kernel
theorem dX2_placeAt_21 : decode cX2_placeAt 21 = .ok (.aload_n 0, 1) := by decide +kernel
theorem dX2_placeAt_22 : decode cX2_placeAt 22 = .ok (.getfield 9, 3) := by decide +kernel
theorem dX2_placeAt_25 : decode cX2_placeAt 25 = .ok (.iload_n 1, 1) := by decide +kernel
theorem dX2_placeAt_26 : decode cX2_placeAt 26 = .ok (.iaload, 1) := by decide +kernel
theorem dX2_placeAt_27 : decode cX2_placeAt 27 = .ok (.goto 4, 3) := by decide +kernel
theorem dX2_placeAt_30 : decode cX2_placeAt 30 = .ok (.iconst 0, 1) := by decide +kernel
theorem dX2_placeAt_31 : decode cX2_placeAt 31 = .ok (.ireturn, 1) := by decide +kernel
theorem dX3_init_0 : decode cX3_init 0 = .ok (.aload_n 0, 1) := by decide +kernel
theorem dX3_init_1 : decode cX3_init 1 = .ok (.invokespecial 3, 3) := by decide +kernel
theorem dX3_init_4 : decode cX3_init 4 = .ok (.aload_n 0, 1) := by decide +kernel
theorem dX3_init_5 : decode cX3_init 5 = .ok (.bipush 10, 2) := by decide +kernel
theorem dX3_init_7 : decode cX3_init 7 = .ok (.newarray .int, 2) := by decide +kernel
theorem dX3_init_9 : decode cX3_init 9 = .ok (.putfield 11, 3) := by decide +kernel
theorem dX3_init_12 : decode cX3_init 12 = .ok (.aload_n 0, 1) := by decide +kernel
theorem dX3_init_13 : decode cX3_init 13 = .ok (.bipush 10, 2) := by decide +kernel
theorem dX3_init_15 : decode cX3_init 15 = .ok (.newarray .int, 2) := by decide +kernel
theorem dX3_init_17 : decode cX3_init 17 = .ok (.putfield 17, 3) := by decide +kernel
theorem dX3_init_20 : decode cX3_init 20 = .ok (.return_, 1) := by decide +kernel
theorem dX3_stateOf_0 : decode cX3_stateOf 0 = .ok (.iload_n 1, 1) := by decide +kernel
theorem dX3_stateOf_1 : decode cX3_stateOf 1 = .ok (.ifCond .lt 21, 3) := by decide +kernel
theorem dX3_stateOf_4 : decode cX3_stateOf 4 = .ok (.iload_n 1, 1) := by decide +kernel
theorem dX3_stateOf_5 : decode cX3_stateOf 5 = .ok (.aload_n 0, 1) := by decide +kernel
theorem dX3_stateOf_6 : decode cX3_stateOf 6 = .ok (.getfield 11, 3) := by decide +kernel
theorem dX3_stateOf_9 : decode cX3_stateOf 9 = .ok (.arraylength, 1) := by decide +kernel
theorem dX3_stateOf_10 : decode cX3_stateOf 10 = .ok (.if_icmp .ge 12, 3) := by decide +kernel
theorem dX3_stateOf_13 : decode cX3_stateOf 13 = .ok (.aload_n 0, 1) := by decide +kernel
theorem dX3_stateOf_14 : decode cX3_stateOf 14 = .ok (.getfield 11, 3) := by decide +kernel
theorem dX3_stateOf_17 : decode cX3_stateOf 17 = .ok (.iload_n 1, 1) := by decide +kernel
theorem dX3_stateOf_18 : decode cX3_stateOf 18 = .ok (.iaload, 1) := by decide +kernel
theorem dX3_stateOf_19 : decode cX3_stateOf 19 = .ok (.goto 4, 3) := by decide +kernel
theorem dX3_stateOf_22 : decode cX3_stateOf 22 = .ok (.iconst (-1), 1) := by decide +kernel
theorem dX3_stateOf_23 : decode cX3_stateOf 23 = .ok (.ireturn, 1) := by decide +kernel
theorem dX3_compare_0 : decode cX3_compare 0 = .ok (.iconst 0, 1) := by decide +kernel
theorem dX3_compare_1 : decode cX3_compare 1 = .ok (.istore_n 3, 1) := by decide +kernel
theorem dX3_compare_2 : decode cX3_compare 2 = .ok (.iconst 0, 1) := by decide +kernel
theorem dX3_compare_3 : decode cX3_compare 3 = .ok (.istore 4, 2) := by decide +kernel
theorem dX3_compare_5 : decode cX3_compare 5 = .ok (.iload 4, 2) := by decide +kernel
theorem dX3_compare_7 : decode cX3_compare 7 = .ok (.aload_n 2, 1) := by decide +kernel
theorem dX3_compare_8 : decode cX3_compare 8 = .ok (.getfield 20, 3) := by decide +kernel
theorem dX3_compare_11 : decode cX3_compare 11 = .ok (.if_icmp .ge 36, 3) := by decide +kernel
theorem dX3_compare_14 : decode cX3_compare 14 = .ok (.iload 4, 2) := by decide +kernel
theorem dX3_compare_16 : decode cX3_compare 16 = .ok (.aload_n 0, 1) := by decide +kernel
theorem dX3_compare_17 : decode cX3_compare 17 = .ok (.getfield 11, 3) := by decide +kernel
theorem dX3_compare_20 : decode cX3_compare 20 = .ok (.arraylength, 1) := by decide +kernel
theorem dX3_compare_21 : decode cX3_compare 21 = .ok (.if_icmp .ge 26, 3) := by decide +kernel
theorem dX3_compare_24 : decode cX3_compare 24 = .ok (.aload_n 1, 1) := by decide +kernel
theorem dX3_compare_25 : decode cX3_compare 25 = .ok (.aload_n 2, 1) := by decide +kernel
theorem dX3_compare_26 : decode cX3_compare 26 = .ok (.iload 4, 2) := by decide +kernel
theorem dX3_compare_28 : decode cX3_compare 28 = .ok (.invokestatic 24, 3) := by decide +kernel
theorem dX3_compare_31 : decode cX3_compare 31 = .ok (.ifCond .eq 10, 3) := by decide +kernel
theorem dX3_compare_34 : decode cX3_compare 34 = .ok (.iload_n 3, 1) := by decide +kernel
theorem dX3_compare_35 : decode cX3_compare 35 = .ok (.iconst 1, 1) := by decide +kernel
theorem dX3_compare_36 : decode cX3_compare 36 = .ok (.iload 4, 2) := by decide +kernel
theorem dX3_compare_38 : decode cX3_compare 38 = .ok (.ishl, 1) := by decide +kernel
theorem dX3_compare_39 : decode cX3_compare 39 = .ok (.ior, 1) := by decide +kernel
theorem dX3_compare_40 : decode cX3_compare 40 = .ok (.istore_n 3, 1) := by decide +kernel
theorem dX3_compare_41 : decode cX3_compare 41 = .ok (.iinc 4 1, 3) := by decide +kernel
theorem dX3_compare_44 : decode cX3_compare 44 = .ok (.goto (-39), 3) := by decide +kernel
theorem dX3_compare_47 : decode cX3_compare 47 = .ok (.aload_n 0, 1) := by decide +kernel
theorem dX3_compare_48 : decode cX3_compare 48 = .ok (.aload_n 2, 1) := by decide +kernel
theorem dX3_compare_49 : decode cX3_compare 49 = .ok (.invokevirtual 28, 3) := by decide +kernel
theorem dX3_compare_52 : decode cX3_compare 52 = .ok (.iconst 0, 1) := by decide +kernel
theorem dX3_compare_53 : decode cX3_compare 53 = .ok (.istore 4, 2) := by decide +kernel
theorem dX3_compare_55 : decode cX3_compare 55 = .ok (.iload 4, 2) := by decide +kernel
theorem dX3_compare_57 : decode cX3_compare 57 = .ok (.aload_n 2, 1) := by decide +kernel
theorem dX3_compare_58 : decode cX3_compare 58 = .ok (.getfield 20, 3) := by decide +kernel
theorem dX3_compare_61 : decode cX3_compare 61 = .ok (.if_icmp .ge 63, 3) := by decide +kernel
theorem dX3_compare_64 : decode cX3_compare 64 = .ok (.iload 4, 2) := by decide +kernel
theorem dX3_compare_66 : decode cX3_compare 66 = .ok (.aload_n 0, 1) := by decide +kernel
theorem dX3_compare_67 : decode cX3_compare 67 = .ok (.getfield 11, 3) := by decide +kernel
theorem dX3_compare_70 : decode cX3_compare 70 = .ok (.arraylength, 1) := by decide +kernel
theorem dX3_compare_71 : decode cX3_compare 71 = .ok (.if_icmp .ge 53, 3) := by decide +kernel
theorem dX3_compare_74 : decode cX3_compare 74 = .ok (.iload_n 3, 1) := by decide +kernel
theorem dX3_compare_75 : decode cX3_compare 75 = .ok (.iload 4, 2) := by decide +kernel
theorem dX3_compare_77 : decode cX3_compare 77 = .ok (.ishr, 1) := by decide +kernel
theorem dX3_compare_78 : decode cX3_compare 78 = .ok (.iconst 1, 1) := by decide +kernel
theorem dX3_compare_79 : decode cX3_compare 79 = .ok (.iand, 1) := by decide +kernel
theorem dX3_compare_80 : decode cX3_compare 80 = .ok (.ifCond .eq 14, 3) := by decide +kernel
theorem dX3_compare_83 : decode cX3_compare 83 = .ok (.aload_n 0, 1) := by decide +kernel
theorem dX3_compare_84 : decode cX3_compare 84 = .ok (.getfield 11, 3) := by decide +kernel
theorem dX3_compare_87 : decode cX3_compare 87 = .ok (.iload 4, 2) := by decide +kernel
theorem dX3_compare_89 : decode cX3_compare 89 = .ok (.iconst 2, 1) := by decide +kernel
theorem dX3_compare_90 : decode cX3_compare 90 = .ok (.iastore, 1) := by decide +kernel
theorem dX3_compare_91 : decode cX3_compare 91 = .ok (.goto 27, 3) := by decide +kernel
theorem dX3_compare_94 : decode cX3_compare 94 = .ok (.aload_n 0, 1) := by decide +kernel
theorem dX3_compare_95 : decode cX3_compare 95 = .ok (.getfield 11, 3) := by decide +kernel
theorem dX3_compare_98 : decode cX3_compare 98 = .ok (.iload 4, 2) := by decide +kernel
theorem dX3_compare_100 : decode cX3_compare 100 = .ok (.aload_n 0, 1) := by decide +kernel
theorem dX3_compare_101 : decode cX3_compare 101 = .ok (.getfield 17, 3) := by decide +kernel
theorem dX3_compare_104 : decode cX3_compare 104 = .ok (.iload 4, 2) := by decide +kernel
theorem dX3_compare_106 : decode cX3_compare 106 = .ok (.iaload, 1) := by decide +kernel
theorem dX3_compare_107 : decode cX3_compare 107 = .ok (.iload_n 3, 1) := by decide +kernel
theorem dX3_compare_108 : decode cX3_compare 108 = .ok (.iand, 1) := by decide +kernel
theorem dX3_compare_109 : decode cX3_compare 109 = .ok (.ifCond .eq 7, 3) := by decide +kernel
theorem dX3_compare_112 : decode cX3_compare 112 = .ok (.iconst 1, 1) := by decide +kernel
theorem dX3_compare_113 : decode cX3_compare 113 = .ok (.goto 4, 3) := by decide +kernel
theorem dX3_compare_116 : decode cX3_compare 116 = .ok (.iconst 0, 1) := by decide +kernel
theorem dX3_compare_117 : decode cX3_compare 117 = .ok (.iastore, 1) := by decide +kernel
theorem dX3_compare_118 : decode cX3_compare 118 = .ok (.iinc 4 1, 3) := by decide +kernel
theorem dX3_compare_121 : decode cX3_compare 121 = .ok (.goto (-66), 3) := by decide +kernel
theorem dX3_compare_124 : decode cX3_compare 124 = .ok (.aload_n 0, 1) := by decide +kernel
theorem dX3_compare_125 : decode cX3_compare 125 = .ok (.aload_n 1, 1) := by decide +kernel
theorem dX3_compare_126 : decode cX3_compare 126 = .ok (.aload_n 2, 1) := by decide +kernel
theorem dX3_compare_127 : decode cX3_compare 127 = .ok (.invokestatic 32, 3) := by decide +kernel
theorem dX3_compare_130 : decode cX3_compare 130 = .ok (.putfield 36, 3) := by decide +kernel
theorem dX3_compare_133 : decode cX3_compare 133 = .ok (.return_, 1) := by decide +kernel
theorem dX3_isNew_0 : decode cX3_isNew 0 = .ok (.aload_n 1, 1) := by decide +kernel
theorem dX3_isNew_1 : decode cX3_isNew 1 = .ok (.iload_n 2, 1) := by decide +kernel
theorem dX3_isNew_2 : decode cX3_isNew 2 = .ok (.invokevirtual 39, 3) := by decide +kernel
theorem dX3_isNew_5 : decode cX3_isNew 5 = .ok (.ifCond .ne 5, 3) := by decide +kernel
theorem dX3_isNew_8 : decode cX3_isNew 8 = .ok (.iconst 1, 1) := by decide +kernel
theorem dX3_isNew_9 : decode cX3_isNew 9 = .ok (.ireturn, 1) := by decide +kernel
theorem dX3_isNew_10 : decode cX3_isNew 10 = .ok (.aload_n 1, 1) := by decide +kernel
theorem dX3_isNew_11 : decode cX3_isNew 11 = .ok (.getfield 43, 3) := by decide +kernel
theorem dX3_isNew_14 : decode cX3_isNew 14 = .ok (.iload_n 2, 1) := by decide +kernel
theorem dX3_isNew_15 : decode cX3_isNew 15 = .ok (.aaload, 1) := by decide +kernel
theorem dX3_isNew_16 : decode cX3_isNew 16 = .ok (.astore_n 3, 1) := by decide +kernel
theorem dX3_isNew_17 : decode cX3_isNew 17 = .ok (.aload_n 0, 1) := by decide +kernel
theorem dX3_isNew_18 : decode cX3_isNew 18 = .ok (.aload_n 1, 1) := by decide +kernel
theorem dX3_isNew_19 : decode cX3_isNew 19 = .ok (.getfield 47, 3) := by decide +kernel
theorem dX3_isNew_22 : decode cX3_isNew 22 = .ok (.aload_n 3, 1) := by decide +kernel
theorem dX3_isNew_23 : decode cX3_isNew 23 = .ok (.getfield 51, 3) := by decide +kernel
theorem dX3_isNew_26 : decode cX3_isNew 26 = .ok (.invokevirtual 56, 3) := by decide +kernel
theorem dX3_isNew_29 : decode cX3_isNew 29 = .ok (.istore 4, 2) := by decide +kernel
theorem dX3_isNew_31 : decode cX3_isNew 31 = .ok (.aload_n 0, 1) := by decide +kernel
theorem dX3_isNew_32 : decode cX3_isNew 32 = .ok (.iload 4, 2) := by decide +kernel
theorem dX3_isNew_34 : decode cX3_isNew 34 = .ok (.invokevirtual 39, 3) := by decide +kernel
theorem dX3_isNew_37 : decode cX3_isNew 37 = .ok (.ifCond .ne 5, 3) := by decide +kernel
theorem dX3_isNew_40 : decode cX3_isNew 40 = .ok (.iconst 1, 1) := by decide +kernel
theorem dX3_isNew_41 : decode cX3_isNew 41 = .ok (.ireturn, 1) := by decide +kernel
theorem dX3_isNew_42 : decode cX3_isNew 42 = .ok (.aload_n 0, 1) := by decide +kernel
theorem dX3_isNew_43 : decode cX3_isNew 43 = .ok (.getfield 43, 3) := by decide +kernel
theorem dX3_isNew_46 : decode cX3_isNew 46 = .ok (.iload 4, 2) := by decide +kernel
theorem dX3_isNew_48 : decode cX3_isNew 48 = .ok (.aaload, 1) := by decide +kernel
theorem dX3_isNew_49 : decode cX3_isNew 49 = .ok (.astore 5, 2) := by decide +kernel
theorem dX3_isNew_51 : decode cX3_isNew 51 = .ok (.aload_n 3, 1) := by decide +kernel
theorem dX3_isNew_52 : decode cX3_isNew 52 = .ok (.getfield 60, 3) := by decide +kernel
theorem dX3_isNew_55 : decode cX3_isNew 55 = .ok (.aload_n 3, 1) := by decide +kernel
theorem dX3_isNew_56 : decode cX3_isNew 56 = .ok (.getfield 63, 3) := by decide +kernel
theorem dX3_isNew_59 : decode cX3_isNew 59 = .ok (.isub, 1) := by decide +kernel
theorem dX3_isNew_60 : decode cX3_isNew 60 = .ok (.aload 5, 2) := by decide +kernel
theorem dX3_isNew_62 : decode cX3_isNew 62 = .ok (.getfield 60, 3) := by decide +kernel
theorem dX3_isNew_65 : decode cX3_isNew 65 = .ok (.aload 5, 2) := by decide +kernel
theorem dX3_isNew_67 : decode cX3_isNew 67 = .ok (.getfield 63, 3) := by decide +kernel
theorem dX3_isNew_70 : decode cX3_isNew 70 = .ok (.isub, 1) := by decide +kernel
theorem dX3_isNew_71 : decode cX3_isNew 71 = .ok (.if_icmp .eq 5, 3) := by decide +kernel
theorem dX3_isNew_74 : decode cX3_isNew 74 = .ok (.iconst 1, 1) := by decide +kernel
theorem dX3_isNew_75 : decode cX3_isNew 75 = .ok (.ireturn, 1) := by decide +kernel
theorem dX3_isNew_76 : decode cX3_isNew 76 = .ok (.aload_n 3, 1) := by decide +kernel
theorem dX3_isNew_77 : decode cX3_isNew 77 = .ok (.getfield 63, 3) := by decide +kernel
theorem dX3_isNew_80 : decode cX3_isNew 80 = .ok (.istore 6, 2) := by decide +kernel
theorem dX3_isNew_82 : decode cX3_isNew 82 = .ok (.iload 6, 2) := by decide +kernel
theorem dX3_isNew_84 : decode cX3_isNew 84 = .ok (.aload_n 3, 1) := by decide +kernel
theorem dX3_isNew_85 : decode cX3_isNew 85 = .ok (.getfield 60, 3) := by decide +kernel
theorem dX3_isNew_88 : decode cX3_isNew 88 = .ok (.if_icmp .gt 40, 3) := by decide +kernel
theorem dX3_isNew_91 : decode cX3_isNew 91 = .ok (.aload_n 1, 1) := by decide +kernel
theorem dX3_isNew_92 : decode cX3_isNew 92 = .ok (.getfield 47, 3) := by decide +kernel
theorem dX3_isNew_95 : decode cX3_isNew 95 = .ok (.iload 6, 2) := by decide +kernel
theorem dX3_isNew_97 : decode cX3_isNew 97 = .ok (.aload_n 0, 1) := by decide +kernel
theorem dX3_isNew_98 : decode cX3_isNew 98 = .ok (.getfield 47, 3) := by decide +kernel
theorem dX3_isNew_101 : decode cX3_isNew 101 = .ok (.aload 5, 2) := by decide +kernel
theorem dX3_isNew_103 : decode cX3_isNew 103 = .ok (.getfield 63, 3) := by decide +kernel
theorem dX3_isNew_106 : decode cX3_isNew 106 = .ok (.iload 6, 2) := by decide +kernel
theorem dX3_isNew_108 : decode cX3_isNew 108 = .ok (.iadd, 1) := by decide +kernel
theorem dX3_isNew_109 : decode cX3_isNew 109 = .ok (.aload_n 3, 1) := by decide +kernel
theorem dX3_isNew_110 : decode cX3_isNew 110 = .ok (.getfield 63, 3) := by decide +kernel
theorem dX3_isNew_113 : decode cX3_isNew 113 = .ok (.isub, 1) := by decide +kernel
theorem dX3_isNew_114 : decode cX3_isNew 114 = .ok (.invokevirtual 66, 3) := by decide +kernel
theorem dX3_isNew_117 : decode cX3_isNew 117 = .ok (.ifCond .ne 5, 3) := by decide +kernel
theorem dX3_isNew_120 : decode cX3_isNew 120 = .ok (.iconst 1, 1) := by decide +kernel
theorem dX3_isNew_121 : decode cX3_isNew 121 = .ok (.ireturn, 1) := by decide +kernel
theorem dX3_isNew_122 : decode cX3_isNew 122 = .ok (.iinc 6 1, 3) := by decide +kernel
theorem dX3_isNew_125 : decode cX3_isNew 125 = .ok (.goto (-43), 3) := by decide +kernel
theorem dX3_isNew_128 : decode cX3_isNew 128 = .ok (.iconst 0, 1) := by decide +kernel
theorem dX3_isNew_129 : decode cX3_isNew 129 = .ok (.ireturn, 1) := by decide +kernel
theorem dX3_findReaches_0 : decode cX3_findReaches 0 = .ok (.aload_n 1, 1) := by decide +kernel
theorem dX3_findReaches_1 : decode cX3_findReaches 1 = .ok (.getfield 20, 3) := by decide +kernel
theorem dX3_findReaches_4 : decode cX3_findReaches 4 = .ok (.aload_n 0, 1) := by decide +kernel
theorem dX3_findReaches_5 : decode cX3_findReaches 5 = .ok (.getfield 17, 3) := by decide +kernel
theorem dX3_findReaches_8 : decode cX3_findReaches 8 = .ok (.arraylength, 1) := by decide +kernel
theorem dX3_findReaches_9 : decode cX3_findReaches 9 = .ok (.invokestatic 72, 3) := by decide +kernel
theorem dX3_findReaches_12 : decode cX3_findReaches 12 = .ok (.istore_n 2, 1) := by decide +kernel
theorem dX3_findReaches_13 : decode cX3_findReaches 13 = .ok (.iconst 0, 1) := by decide +kernel
theorem dX3_findReaches_14 : decode cX3_findReaches 14 = .ok (.istore_n 3, 1) := by decide +kernel
theorem dX3_findReaches_15 : decode cX3_findReaches 15 = .ok (.iload_n 3, 1) := by decide +kernel
theorem dX3_findReaches_16 : decode cX3_findReaches 16 = .ok (.iload_n 2, 1) := by decide +kernel
theorem dX3_findReaches_17 : decode cX3_findReaches 17 = .ok (.if_icmp .ge 24, 3) := by decide +kernel
theorem dX3_findReaches_20 : decode cX3_findReaches 20 = .ok (.aload_n 0, 1) := by decide +kernel
theorem dX3_findReaches_21 : decode cX3_findReaches 21 = .ok (.getfield 17, 3) := by decide +kernel
theorem dX3_findReaches_24 : decode cX3_findReaches 24 = .ok (.iload_n 3, 1) := by decide +kernel
theorem dX3_findReaches_25 : decode cX3_findReaches 25 = .ok (.aload_n 1, 1) := by decide +kernel
theorem dX3_findReaches_26 : decode cX3_findReaches 26 = .ok (.getfield 43, 3) := by decide +kernel
theorem dX3_findReaches_29 : decode cX3_findReaches 29 = .ok (.iload_n 3, 1) := by decide +kernel
theorem dX3_findReaches_30 : decode cX3_findReaches 30 = .ok (.aaload, 1) := by decide +kernel
theorem dX3_findReaches_31 : decode cX3_findReaches 31 = .ok (.getfield 78, 3) := by decide +kernel
theorem dX3_findReaches_34 : decode cX3_findReaches 34 = .ok (.iastore, 1) := by decide +kernel
theorem dX3_findReaches_35 : decode cX3_findReaches 35 = .ok (.iinc 3 1, 3) := by decide +kernel
theorem dX3_findReaches_38 : decode cX3_findReaches 38 = .ok (.goto (-23), 3) := by decide +kernel
theorem dX3_findReaches_41 : decode cX3_findReaches 41 = .ok (.iconst 0, 1) := by decide +kernel
theorem dX3_findReaches_42 : decode cX3_findReaches 42 = .ok (.istore_n 3, 1) := by decide +kernel
theorem dX3_findReaches_43 : decode cX3_findReaches 43 = .ok (.iload_n 3, 1) := by decide +kernel
theorem dX3_findReaches_44 : decode cX3_findReaches 44 = .ok (.iload_n 2, 1) := by decide +kernel
theorem dX3_findReaches_45 : decode cX3_findReaches 45 = .ok (.if_icmp .ge 54, 3) := by decide +kernel
theorem dX3_findReaches_48 : decode cX3_findReaches 48 = .ok (.iconst 0, 1) := by decide +kernel
theorem dX3_findReaches_49 : decode cX3_findReaches 49 = .ok (.istore 4, 2) := by decide +kernel
theorem dX3_findReaches_51 : decode cX3_findReaches 51 = .ok (.iload 4, 2) := by decide +kernel
theorem dX3_findReaches_53 : decode cX3_findReaches 53 = .ok (.iload_n 2, 1) := by decide +kernel
theorem dX3_findReaches_54 : decode cX3_findReaches 54 = .ok (.if_icmp .ge 39, 3) := by decide +kernel
theorem dX3_findReaches_57 : decode cX3_findReaches 57 = .ok (.aload_n 0, 1) := by decide +kernel
theorem dX3_findReaches_58 : decode cX3_findReaches 58 = .ok (.getfield 17, 3) := by decide +kernel
theorem dX3_findReaches_61 : decode cX3_findReaches 61 = .ok (.iload 4, 2) := by decide +kernel
theorem dX3_findReaches_63 : decode cX3_findReaches 63 = .ok (.iaload, 1) := by decide +kernel
theorem dX3_findReaches_64 : decode cX3_findReaches 64 = .ok (.iload_n 3, 1) := by decide +kernel
theorem dX3_findReaches_65 : decode cX3_findReaches 65 = .ok (.ishr, 1) := by decide +kernel
theorem dX3_findReaches_66 : decode cX3_findReaches 66 = .ok (.iconst 1, 1) := by decide +kernel
theorem dX3_findReaches_67 : decode cX3_findReaches 67 = .ok (.iand, 1) := by decide +kernel
theorem dX3_findReaches_68 : decode cX3_findReaches 68 = .ok (.ifCond .eq 19, 3) := by decide +kernel
theorem dX3_findReaches_71 : decode cX3_findReaches 71 = .ok (.aload_n 0, 1) := by decide +kernel
theorem dX3_findReaches_72 : decode cX3_findReaches 72 = .ok (.getfield 17, 3) := by decide +kernel
theorem dX3_findReaches_75 : decode cX3_findReaches 75 = .ok (.iload 4, 2) := by decide +kernel
theorem dX3_findReaches_77 : decode cX3_findReaches 77 = .ok (.dup2, 1) := by decide +kernel
theorem dX3_findReaches_78 : decode cX3_findReaches 78 = .ok (.iaload, 1) := by decide +kernel
theorem dX3_findReaches_79 : decode cX3_findReaches 79 = .ok (.aload_n 0, 1) := by decide +kernel
theorem dX3_findReaches_80 : decode cX3_findReaches 80 = .ok (.getfield 17, 3) := by decide +kernel
theorem dX3_findReaches_83 : decode cX3_findReaches 83 = .ok (.iload_n 3, 1) := by decide +kernel
theorem dX3_findReaches_84 : decode cX3_findReaches 84 = .ok (.iaload, 1) := by decide +kernel
theorem dX3_findReaches_85 : decode cX3_findReaches 85 = .ok (.ior, 1) := by decide +kernel
theorem dX3_findReaches_86 : decode cX3_findReaches 86 = .ok (.iastore, 1) := by decide +kernel
theorem dX3_findReaches_87 : decode cX3_findReaches 87 = .ok (.iinc 4 1, 3) := by decide +kernel
theorem dX3_findReaches_90 : decode cX3_findReaches 90 = .ok (.goto (-39), 3) := by decide +kernel
theorem dX3_findReaches_93 : decode cX3_findReaches 93 = .ok (.iinc 3 1, 3) := by decide +kernel
theorem dX3_findReaches_96 : decode cX3_findReaches 96 = .ok (.goto (-53), 3) := by decide +kernel
theorem dX3_findReaches_99 : decode cX3_findReaches 99 = .ok (.return_, 1) := by decide +kernel
theorem dX3_countGone_0 : decode cX3_countGone 0 = .ok (.iconst 0, 1) := by decide +kernel
theorem dX3_countGone_1 : decode cX3_countGone 1 = .ok (.istore_n 2, 1) := by decide +kernel
theorem dX3_countGone_2 : decode cX3_countGone 2 = .ok (.iconst 0, 1) := by decide +kernel
theorem dX3_countGone_3 : decode cX3_countGone 3 = .ok (.istore_n 3, 1) := by decide +kernel
theorem dX3_countGone_4 : decode cX3_countGone 4 = .ok (.iload_n 3, 1) := by decide +kernel
theorem dX3_countGone_5 : decode cX3_countGone 5 = .ok (.aload_n 0, 1) := by decide +kernel
theorem dX3_countGone_6 : decode cX3_countGone 6 = .ok (.getfield 20, 3) := by decide +kernel
theorem dX3_countGone_9 : decode cX3_countGone 9 = .ok (.if_icmp .ge 42, 3) := by decide +kernel
theorem dX3_countGone_12 : decode cX3_countGone 12 = .ok (.iload_n 3, 1) := by decide +kernel
theorem dX3_countGone_13 : decode cX3_countGone 13 = .ok (.aload_n 0, 1) := by decide +kernel
theorem dX3_countGone_14 : decode cX3_countGone 14 = .ok (.getfield 43, 3) := by decide +kernel
theorem dX3_countGone_17 : decode cX3_countGone 17 = .ok (.arraylength, 1) := by decide +kernel
theorem dX3_countGone_18 : decode cX3_countGone 18 = .ok (.if_icmp .ge 33, 3) := by decide +kernel
theorem dX3_countGone_21 : decode cX3_countGone 21 = .ok (.aload_n 1, 1) := by decide +kernel
theorem dX3_countGone_22 : decode cX3_countGone 22 = .ok (.aload_n 0, 1) := by decide +kernel
theorem dX3_countGone_23 : decode cX3_countGone 23 = .ok (.getfield 47, 3) := by decide +kernel
theorem dX3_countGone_26 : decode cX3_countGone 26 = .ok (.aload_n 0, 1) := by decide +kernel
theorem dX3_countGone_27 : decode cX3_countGone 27 = .ok (.getfield 43, 3) := by decide +kernel
theorem dX3_countGone_30 : decode cX3_countGone 30 = .ok (.iload_n 3, 1) := by decide +kernel
theorem dX3_countGone_31 : decode cX3_countGone 31 = .ok (.aaload, 1) := by decide +kernel
theorem dX3_countGone_32 : decode cX3_countGone 32 = .ok (.getfield 51, 3) := by decide +kernel
theorem dX3_countGone_35 : decode cX3_countGone 35 = .ok (.invokevirtual 56, 3) := by decide +kernel
theorem dX3_countGone_38 : decode cX3_countGone 38 = .ok (.iconst (-1), 1) := by decide +kernel
theorem dX3_countGone_39 : decode cX3_countGone 39 = .ok (.if_icmp .ne 6, 3) := by decide +kernel
theorem dX3_countGone_42 : decode cX3_countGone 42 = .ok (.iinc 2 1, 3) := by decide +kernel
theorem dX3_countGone_45 : decode cX3_countGone 45 = .ok (.iinc 3 1, 3) := by decide +kernel
theorem dX3_countGone_48 : decode cX3_countGone 48 = .ok (.goto (-44), 3) := by decide +kernel
theorem dX3_countGone_51 : decode cX3_countGone 51 = .ok (.iload_n 2, 1) := by decide +kernel
theorem dX3_countGone_52 : decode cX3_countGone 52 = .ok (.ireturn, 1) := by decide +kernel
theorem dX4_init_0 : decode cX4_init 0 = .ok (.aload_n 0, 1) := by decide +kernel
theorem dX4_init_1 : decode cX4_init 1 = .ok (.invokespecial 1, 3) := by decide +kernel
theorem dX4_init_4 : decode cX4_init 4 = .ok (.return_, 1) := by decide +kernel
theorem dX5_init_0 : decode cX5_init 0 = .ok (.aload_n 0, 1) := by decide +kernel
theorem dX5_init_1 : decode cX5_init 1 = .ok (.invokespecial 5, 3) := by decide +kernel
theorem dX5_init_4 : decode cX5_init 4 = .ok (.aload_n 0, 1) := by decide +kernel
theorem dX5_init_5 : decode cX5_init 5 = .ok (.bipush 60, 2) := by decide +kernel
theorem dX5_init_7 : decode cX5_init 7 = .ok (.newarray .int, 2) := by decide +kernel
theorem dX5_init_9 : decode cX5_init 9 = .ok (.putfield 11, 3) := by decide +kernel
theorem dX5_init_12 : decode cX5_init 12 = .ok (.aload_n 0, 1) := by decide +kernel
theorem dX5_init_13 : decode cX5_init 13 = .ok (.sipush 1600, 3) := by decide +kernel
theorem dX5_init_16 : decode cX5_init 16 = .ok (.newarray .int, 2) := by decide +kernel
theorem dX5_init_18 : decode cX5_init 18 = .ok (.putfield 15, 3) := by decide +kernel
theorem dX5_init_21 : decode cX5_init 21 = .ok (.aload_n 0, 1) := by decide +kernel
theorem dX5_init_22 : decode cX5_init 22 = .ok (.bipush 64, 2) := by decide +kernel
theorem dX5_init_24 : decode cX5_init 24 = .ok (.newarray .int, 2) := by decide +kernel
theorem dX5_init_26 : decode cX5_init 26 = .ok (.putfield 18, 3) := by decide +kernel
theorem dX5_init_29 : decode cX5_init 29 = .ok (.aload_n 0, 1) := by decide +kernel
theorem dX5_init_30 : decode cX5_init 30 = .ok (.bipush 8, 2) := by decide +kernel
theorem dX5_init_32 : decode cX5_init 32 = .ok (.newarray .int, 2) := by decide +kernel
theorem dX5_init_34 : decode cX5_init 34 = .ok (.putfield 21, 3) := by decide +kernel
theorem dX5_init_37 : decode cX5_init 37 = .ok (.aload_n 0, 1) := by decide +kernel
theorem dX5_init_38 : decode cX5_init 38 = .ok (.sipush 288, 3) := by decide +kernel
theorem dX5_init_41 : decode cX5_init 41 = .ok (.newarray .int, 2) := by decide +kernel
theorem dX5_init_43 : decode cX5_init 43 = .ok (.putfield 24, 3) := by decide +kernel
theorem dX5_init_46 : decode cX5_init 46 = .ok (.return_, 1) := by decide +kernel
theorem dX5_start_0 : decode cX5_start 0 = .ok (.aload_n 0, 1) := by decide +kernel
theorem dX5_start_1 : decode cX5_start 1 = .ok (.aload_n 1, 1) := by decide +kernel
theorem dX5_start_2 : decode cX5_start 2 = .ok (.putfield 27, 3) := by decide +kernel
theorem dX5_start_5 : decode cX5_start 5 = .ok (.aload_n 0, 1) := by decide +kernel
theorem dX5_start_6 : decode cX5_start 6 = .ok (.iload_n 2, 1) := by decide +kernel
theorem dX5_start_7 : decode cX5_start 7 = .ok (.putfield 31, 3) := by decide +kernel
theorem dX5_start_10 : decode cX5_start 10 = .ok (.aload_n 0, 1) := by decide +kernel
theorem dX5_start_11 : decode cX5_start 11 = .ok (.iload_n 3, 1) := by decide +kernel
theorem dX5_start_12 : decode cX5_start 12 = .ok (.putfield 35, 3) := by decide +kernel
theorem dX5_start_15 : decode cX5_start 15 = .ok (.aload_n 0, 1) := by decide +kernel
theorem dX5_start_16 : decode cX5_start 16 = .ok (.iconst 1, 1) := by decide +kernel
theorem dX5_start_17 : decode cX5_start 17 = .ok (.putfield 38, 3) := by decide +kernel
theorem dX5_start_20 : decode cX5_start 20 = .ok (.aload_n 0, 1) := by decide +kernel
theorem dX5_start_21 : decode cX5_start 21 = .ok (.iconst 0, 1) := by decide +kernel
theorem dX5_start_22 : decode cX5_start 22 = .ok (.putfield 41, 3) := by decide +kernel
theorem dX5_start_25 : decode cX5_start 25 = .ok (.aload_n 0, 1) := by decide +kernel
theorem dX5_start_26 : decode cX5_start 26 = .ok (.iconst 0, 1) := by decide +kernel
theorem dX5_start_27 : decode cX5_start 27 = .ok (.putfield 44, 3) := by decide +kernel
theorem dX5_start_30 : decode cX5_start 30 = .ok (.aload_n 0, 1) := by decide +kernel
theorem dX5_start_31 : decode cX5_start 31 = .ok (.iconst 0, 1) := by decide +kernel
theorem dX5_start_32 : decode cX5_start 32 = .ok (.putfield 47, 3) := by decide +kernel
theorem dX5_start_35 : decode cX5_start 35 = .ok (.aload_n 0, 1) := by decide +kernel
theorem dX5_start_36 : decode cX5_start 36 = .ok (.iconst 0, 1) := by decide +kernel
theorem dX5_start_37 : decode cX5_start 37 = .ok (.putfield 50, 3) := by decide +kernel
theorem dX5_start_40 : decode cX5_start 40 = .ok (.aload_n 0, 1) := by decide +kernel
theorem dX5_start_41 : decode cX5_start 41 = .ok (.iconst 0, 1) := by decide +kernel
theorem dX5_start_42 : decode cX5_start 42 = .ok (.putfield 53, 3) := by decide +kernel
theorem dX5_start_45 : decode cX5_start 45 = .ok (.aload_n 0, 1) := by decide +kernel
theorem dX5_start_46 : decode cX5_start 46 = .ok (.lconst 0, 1) := by decide +kernel
theorem dX5_start_47 : decode cX5_start 47 = .ok (.putfield 56, 3) := by decide +kernel
theorem dX5_start_50 : decode cX5_start 50 = .ok (.aload_n 0, 1) := by decide +kernel
theorem dX5_start_51 : decode cX5_start 51 = .ok (.iconst 0, 1) := by decide +kernel
theorem dX5_start_52 : decode cX5_start 52 = .ok (.putfield 60, 3) := by decide +kernel
theorem dX5_start_55 : decode cX5_start 55 = .ok (.aload_n 0, 1) := by decide +kernel
theorem dX5_start_56 : decode cX5_start 56 = .ok (.iconst 0, 1) := by decide +kernel
theorem dX5_start_57 : decode cX5_start 57 = .ok (.putfield 63, 3) := by decide +kernel
theorem dX5_start_60 : decode cX5_start 60 = .ok (.aload_n 0, 1) := by decide +kernel
theorem dX5_start_61 : decode cX5_start 61 = .ok (.iconst 1, 1) := by decide +kernel
theorem dX5_start_62 : decode cX5_start 62 = .ok (.putfield 66, 3) := by decide +kernel
theorem dX5_start_65 : decode cX5_start 65 = .ok (.return_, 1) := by decide +kernel
theorem dX5_finish_0 : decode cX5_finish 0 = .ok (.aload_n 0, 1) := by decide +kernel
theorem dX5_finish_1 : decode cX5_finish 1 = .ok (.getfield 27, 3) := by decide +kernel
theorem dX5_finish_4 : decode cX5_finish 4 = .ok (.ifnull 14, 3) := by decide +kernel
theorem dX5_finish_7 : decode cX5_finish 7 = .ok (.aload_n 0, 1) := by decide +kernel
theorem dX5_finish_8 : decode cX5_finish 8 = .ok (.getfield 27, 3) := by decide +kernel
theorem dX5_finish_11 : decode cX5_finish 11 = .ok (.iload_n 1, 1) := by decide +kernel
theorem dX5_finish_12 : decode cX5_finish 12 = .ok (.invokevirtual 70, 3) := by decide +kernel
theorem dX5_finish_15 : decode cX5_finish 15 = .ok (.ifCond .ne 4, 3) := by decide +kernel
theorem dX5_finish_18 : decode cX5_finish 18 = .ok (.return_, 1) := by decide +kernel
theorem dX5_finish_19 : decode cX5_finish 19 = .ok (.aload_n 0, 1) := by decide +kernel
theorem dX5_finish_20 : decode cX5_finish 20 = .ok (.iload_n 2, 1) := by decide +kernel
theorem dX5_finish_21 : decode cX5_finish 21 = .ok (.invokevirtual 76, 3) := by decide +kernel
theorem dX5_finish_24 : decode cX5_finish 24 = .ok (.aload_n 0, 1) := by decide +kernel
theorem dX5_finish_25 : decode cX5_finish 25 = .ok (.iload_n 3, 1) := by decide +kernel
theorem dX5_finish_26 : decode cX5_finish 26 = .ok (.invokevirtual 76, 3) := by decide +kernel
theorem dX5_finish_29 : decode cX5_finish 29 = .ok (.aload_n 0, 1) := by decide +kernel
theorem dX5_finish_30 : decode cX5_finish 30 = .ok (.iload 4, 2) := by decide +kernel
theorem dX5_finish_32 : decode cX5_finish 32 = .ok (.invokevirtual 76, 3) := by decide +kernel
theorem dX5_finish_35 : decode cX5_finish 35 = .ok (.aload_n 0, 1) := by decide +kernel
theorem dX5_finish_36 : decode cX5_finish 36 = .ok (.aload_n 0, 1) := by decide +kernel
theorem dX5_finish_37 : decode cX5_finish 37 = .ok (.getfield 63, 3) := by decide +kernel
theorem dX5_finish_40 : decode cX5_finish 40 = .ok (.aload_n 0, 1) := by decide +kernel
theorem dX5_finish_41 : decode cX5_finish 41 = .ok (.getfield 27, 3) := by decide +kernel
theorem dX5_finish_44 : decode cX5_finish 44 = .ok (.getfield 80, 3) := by decide +kernel
theorem dX5_finish_47 : decode cX5_finish 47 = .ok (.iload_n 1, 1) := by decide +kernel
theorem dX5_finish_48 : decode cX5_finish 48 = .ok (.aaload, 1) := by decide +kernel
theorem dX5_finish_49 : decode cX5_finish 49 = .ok (.getfield 84, 3) := by decide +kernel
theorem dX5_finish_52 : decode cX5_finish 52 = .ok (.invokestatic 89, 3) := by decide +kernel
theorem dX5_finish_55 : decode cX5_finish 55 = .ok (.putfield 63, 3) := by decide +kernel
theorem dX5_finish_58 : decode cX5_finish 58 = .ok (.aload_n 0, 1) := by decide +kernel
theorem dX5_finish_59 : decode cX5_finish 59 = .ok (.iload_n 1, 1) := by decide +kernel
theorem dX5_finish_60 : decode cX5_finish 60 = .ok (.invokevirtual 95, 3) := by decide +kernel
theorem dX5_finish_63 : decode cX5_finish 63 = .ok (.aload_n 0, 1) := by decide +kernel
theorem dX5_finish_64 : decode cX5_finish 64 = .ok (.getfield 27, 3) := by decide +kernel
theorem dX5_finish_67 : decode cX5_finish 67 = .ok (.getfield 98, 3) := by decide +kernel
theorem dX5_finish_70 : decode cX5_finish 70 = .ok (.astore 5, 2) := by decide +kernel
theorem dX5_finish_72 : decode cX5_finish 72 = .ok (.iconst 0, 1) := by decide +kernel
theorem dX5_finish_73 : decode cX5_finish 73 = .ok (.istore 6, 2) := by decide +kernel
theorem dX5_finish_75 : decode cX5_finish 75 = .ok (.iload 6, 2) := by decide +kernel
theorem dX5_finish_77 : decode cX5_finish 77 = .ok (.ldc 102, 2) := by decide +kernel
theorem dX5_finish_79 : decode cX5_finish 79 = .ok (.if_icmp .ge 72, 3) := by decide +kernel
theorem dX5_finish_82 : decode cX5_finish 82 = .ok (.aload_n 0, 1) := by decide +kernel
theorem dX5_finish_83 : decode cX5_finish 83 = .ok (.getfield 66, 3) := by decide +kernel
theorem dX5_finish_86 : decode cX5_finish 86 = .ok (.ifCond .eq 65, 3) := by decide +kernel
theorem dX5_finish_89 : decode cX5_finish 89 = .ok (.aload 5, 2) := by decide +kernel
theorem dX5_finish_91 : decode cX5_finish 91 = .ok (.aload_n 0, 1) := by decide +kernel
theorem dX5_finish_92 : decode cX5_finish 92 = .ok (.getfield 103, 3) := by decide +kernel
theorem dX5_finish_95 : decode cX5_finish 95 = .ok (.invokevirtual 106, 3) := by decide +kernel
theorem dX5_finish_98 : decode cX5_finish 98 = .ok (.ifCond .eq 53, 3) := by decide +kernel
theorem dX5_finish_101 : decode cX5_finish 101 = .ok (.aload_n 0, 1) := by decide +kernel
theorem dX5_finish_102 : decode cX5_finish 102 = .ok (.getfield 103, 3) := by decide +kernel
theorem dX5_finish_105 : decode cX5_finish 105 = .ok (.istore 7, 2) := by decide +kernel
theorem dX5_finish_107 : decode cX5_finish 107 = .ok (.aload_n 0, 1) := by decide +kernel
theorem dX5_finish_108 : decode cX5_finish 108 = .ok (.dup, 1) := by decide +kernel
theorem dX5_finish_109 : decode cX5_finish 109 = .ok (.getfield 103, 3) := by decide +kernel
theorem dX5_finish_112 : decode cX5_finish 112 = .ok (.iconst 1, 1) := by decide +kernel
theorem dX5_finish_113 : decode cX5_finish 113 = .ok (.iadd, 1) := by decide +kernel
theorem dX5_finish_114 : decode cX5_finish 114 = .ok (.putfield 103, 3) := by decide +kernel
theorem dX5_finish_117 : decode cX5_finish 117 = .ok (.aload_n 0, 1) := by decide +kernel
theorem dX5_finish_118 : decode cX5_finish 118 = .ok (.aload 5, 2) := by decide +kernel
theorem dX5_finish_120 : decode cX5_finish 120 = .ok (.getfield 111, 3) := by decide +kernel
theorem dX5_finish_123 : decode cX5_finish 123 = .ok (.iload 7, 2) := by decide +kernel
theorem dX5_finish_125 : decode cX5_finish 125 = .ok (.iaload, 1) := by decide +kernel
theorem dX5_finish_126 : decode cX5_finish 126 = .ok (.aload 5, 2) := by decide +kernel
theorem dX5_finish_128 : decode cX5_finish 128 = .ok (.getfield 114, 3) := by decide +kernel
theorem dX5_finish_131 : decode cX5_finish 131 = .ok (.iload 7, 2) := by decide +kernel
theorem dX5_finish_133 : decode cX5_finish 133 = .ok (.iaload, 1) := by decide +kernel
theorem dX5_finish_134 : decode cX5_finish 134 = .ok (.aload 5, 2) := by decide +kernel
theorem dX5_finish_136 : decode cX5_finish 136 = .ok (.getfield 117, 3) := by decide +kernel
theorem dX5_finish_139 : decode cX5_finish 139 = .ok (.iload 7, 2) := by decide +kernel
theorem dX5_finish_141 : decode cX5_finish 141 = .ok (.iaload, 1) := by decide +kernel
theorem dX5_finish_142 : decode cX5_finish 142 = .ok (.invokevirtual 120, 3) := by decide +kernel
theorem dX5_finish_145 : decode cX5_finish 145 = .ok (.iinc 6 1, 3) := by decide +kernel
theorem dX5_finish_148 : decode cX5_finish 148 = .ok (.goto (-73), 3) := by decide +kernel
theorem dX5_finish_151 : decode cX5_finish 151 = .ok (.return_, 1) := by decide +kernel
theorem dX5_keepsSaid_0 : decode cX5_keepsSaid 0 = .ok (.iload_n 1, 1) := by decide +kernel
theorem dX5_keepsSaid_1 : decode cX5_keepsSaid 1 = .ok (.ifCond .lt 24, 3) := by decide +kernel
theorem dX5_keepsSaid_4 : decode cX5_keepsSaid 4 = .ok (.iload_n 1, 1) := by decide +kernel
theorem dX5_keepsSaid_5 : decode cX5_keepsSaid 5 = .ok (.aload_n 0, 1) := by decide +kernel
theorem dX5_keepsSaid_6 : decode cX5_keepsSaid 6 = .ok (.getfield 47, 3) := by decide +kernel
theorem dX5_keepsSaid_9 : decode cX5_keepsSaid 9 = .ok (.if_icmp .ge 16, 3) := by decide +kernel
theorem dX5_keepsSaid_12 : decode cX5_keepsSaid 12 = .ok (.iload_n 1, 1) := by decide +kernel
theorem dX5_keepsSaid_13 : decode cX5_keepsSaid 13 = .ok (.aload_n 0, 1) := by decide +kernel
theorem dX5_keepsSaid_14 : decode cX5_keepsSaid 14 = .ok (.getfield 11, 3) := by decide +kernel
theorem dX5_keepsSaid_17 : decode cX5_keepsSaid 17 = .ok (.arraylength, 1) := by decide +kernel
theorem dX5_keepsSaid_18 : decode cX5_keepsSaid 18 = .ok (.if_icmp .ge 7, 3) := by decide +kernel
theorem dX5_keepsSaid_21 : decode cX5_keepsSaid 21 = .ok (.iconst 1, 1) := by decide +kernel
theorem dX5_keepsSaid_22 : decode cX5_keepsSaid 22 = .ok (.goto 4, 3) := by decide +kernel
theorem dX5_keepsSaid_25 : decode cX5_keepsSaid 25 = .ok (.iconst 0, 1) := by decide +kernel
theorem dX5_keepsSaid_26 : decode cX5_keepsSaid 26 = .ok (.ireturn, 1) := by decide +kernel
theorem dX5_saidAt_0 : decode cX5_saidAt 0 = .ok (.aload_n 0, 1) := by decide +kernel
theorem dX5_saidAt_1 : decode cX5_saidAt 1 = .ok (.iload_n 1, 1) := by decide +kernel
theorem dX5_saidAt_2 : decode cX5_saidAt 2 = .ok (.invokevirtual 124, 3) := by decide +kernel
theorem dX5_saidAt_5 : decode cX5_saidAt 5 = .ok (.ifCond .eq 12, 3) := by decide +kernel
theorem dX5_saidAt_8 : decode cX5_saidAt 8 = .ok (.aload_n 0, 1) := by decide +kernel
theorem dX5_saidAt_9 : decode cX5_saidAt 9 = .ok (.getfield 11, 3) := by decide +kernel
theorem dX5_saidAt_12 : decode cX5_saidAt 12 = .ok (.iload_n 1, 1) := by decide +kernel
theorem dX5_saidAt_13 : decode cX5_saidAt 13 = .ok (.iaload, 1) := by decide +kernel
theorem dX5_saidAt_14 : decode cX5_saidAt 14 = .ok (.goto 4, 3) := by decide +kernel
theorem dX5_saidAt_17 : decode cX5_saidAt 17 = .ok (.iconst 0, 1) := by decide +kernel
theorem dX5_saidAt_18 : decode cX5_saidAt 18 = .ok (.ireturn, 1) := by decide +kernel
theorem dX5_keepsTrace_0 : decode cX5_keepsTrace 0 = .ok (.iload_n 1, 1) := by decide +kernel
theorem dX5_keepsTrace_1 : decode cX5_keepsTrace 1 = .ok (.ifCond .lt 31, 3) := by decide +kernel
theorem dX5_keepsTrace_4 : decode cX5_keepsTrace 4 = .ok (.iload_n 1, 1) := by decide +kernel
theorem dX5_keepsTrace_5 : decode cX5_keepsTrace 5 = .ok (.aload_n 0, 1) := by decide +kernel
theorem dX5_keepsTrace_6 : decode cX5_keepsTrace 6 = .ok (.getfield 50, 3) := by decide +kernel
theorem dX5_keepsTrace_9 : decode cX5_keepsTrace 9 = .ok (.if_icmp .ge 23, 3) := by decide +kernel
theorem dX5_keepsTrace_12 : decode cX5_keepsTrace 12 = .ok (.iload_n 1, 1) := by decide +kernel
theorem dX5_keepsTrace_13 : decode cX5_keepsTrace 13 = .ok (.sipush 400, 3) := by decide +kernel
theorem dX5_keepsTrace_16 : decode cX5_keepsTrace 16 = .ok (.if_icmp .ge 16, 3) := by decide +kernel
theorem dX5_keepsTrace_19 : decode cX5_keepsTrace 19 = .ok (.iload_n 2, 1) := by decide +kernel
theorem dX5_keepsTrace_20 : decode cX5_keepsTrace 20 = .ok (.ifCond .lt 12, 3) := by decide +kernel
theorem dX5_keepsTrace_23 : decode cX5_keepsTrace 23 = .ok (.iload_n 2, 1) := by decide +kernel
theorem dX5_keepsTrace_24 : decode cX5_keepsTrace 24 = .ok (.iconst 4, 1) := by decide +kernel
theorem dX5_keepsTrace_25 : decode cX5_keepsTrace 25 = .ok (.if_icmp .ge 7, 3) := by decide +kernel
theorem dX5_keepsTrace_28 : decode cX5_keepsTrace 28 = .ok (.iconst 1, 1) := by decide +kernel
theorem dX5_keepsTrace_29 : decode cX5_keepsTrace 29 = .ok (.goto 4, 3) := by decide +kernel
theorem dX5_keepsTrace_32 : decode cX5_keepsTrace 32 = .ok (.iconst 0, 1) := by decide +kernel
theorem dX5_keepsTrace_33 : decode cX5_keepsTrace 33 = .ok (.ireturn, 1) := by decide +kernel
theorem dX5_traceAt_0 : decode cX5_traceAt 0 = .ok (.aload_n 0, 1) := by decide +kernel
theorem dX5_traceAt_1 : decode cX5_traceAt 1 = .ok (.iload_n 1, 1) := by decide +kernel
theorem dX5_traceAt_2 : decode cX5_traceAt 2 = .ok (.iload_n 2, 1) := by decide +kernel
theorem dX5_traceAt_3 : decode cX5_traceAt 3 = .ok (.invokevirtual 127, 3) := by decide +kernel
theorem dX5_traceAt_6 : decode cX5_traceAt 6 = .ok (.ifCond .eq 16, 3) := by decide +kernel
theorem dX5_traceAt_9 : decode cX5_traceAt 9 = .ok (.aload_n 0, 1) := by decide +kernel
theorem dX5_traceAt_10 : decode cX5_traceAt 10 = .ok (.getfield 15, 3) := by decide +kernel
theorem dX5_traceAt_13 : decode cX5_traceAt 13 = .ok (.iload_n 1, 1) := by decide +kernel
theorem dX5_traceAt_14 : decode cX5_traceAt 14 = .ok (.iconst 4, 1) := by decide +kernel
theorem dX5_traceAt_15 : decode cX5_traceAt 15 = .ok (.imul, 1) := by decide +kernel
theorem dX5_traceAt_16 : decode cX5_traceAt 16 = .ok (.iload_n 2, 1) := by decide +kernel
theorem dX5_traceAt_17 : decode cX5_traceAt 17 = .ok (.iadd, 1) := by decide +kernel
theorem dX5_traceAt_18 : decode cX5_traceAt 18 = .ok (.iaload, 1) := by decide +kernel
theorem dX5_traceAt_19 : decode cX5_traceAt 19 = .ok (.goto 4, 3) := by decide +kernel
theorem dX5_traceAt_22 : decode cX5_traceAt 22 = .ok (.iconst 0, 1) := by decide +kernel
theorem dX5_traceAt_23 : decode cX5_traceAt 23 = .ok (.ireturn, 1) := by decide +kernel
theorem dX5_firstCallsPlace_0 : decode cX5_firstCallsPlace 0 = .ok (.iload_n 1, 1) := by decide +kernel
theorem dX5_firstCallsPlace_1 : decode cX5_firstCallsPlace 1 = .ok (.ifCond .lt 18, 3) := by decide +kernel
theorem dX5_firstCallsPlace_4 : decode cX5_firstCallsPlace 4 = .ok (.iload_n 1, 1) := by decide +kernel
theorem dX5_firstCallsPlace_5 : decode cX5_firstCallsPlace 5 = .ok (.bipush 8, 2) := by decide +kernel
theorem dX5_firstCallsPlace_7 : decode cX5_firstCallsPlace 7 = .ok (.if_icmp .ge 12, 3) := by decide +kernel
theorem dX5_firstCallsPlace_10 : decode cX5_firstCallsPlace 10 = .ok (.aload_n 0, 1) := by decide +kernel
theorem dX5_firstCallsPlace_11 : decode cX5_firstCallsPlace 11 = .ok (.getfield 18, 3) := by decide +kernel
theorem dX5_firstCallsPlace_14 : decode cX5_firstCallsPlace 14 = .ok (.iload_n 1, 1) := by decide +kernel
theorem dX5_firstCallsPlace_15 : decode cX5_firstCallsPlace 15 = .ok (.iaload, 1) := by decide +kernel
theorem dX5_firstCallsPlace_16 : decode cX5_firstCallsPlace 16 = .ok (.goto 4, 3) := by decide +kernel
theorem dX5_firstCallsPlace_19 : decode cX5_firstCallsPlace 19 = .ok (.iconst 0, 1) := by decide +kernel
theorem dX5_firstCallsPlace_20 : decode cX5_firstCallsPlace 20 = .ok (.ireturn, 1) := by decide +kernel
theorem dX5_tellsLike_0 : decode cX5_tellsLike 0 = .ok (.aload_n 0, 1) := by decide +kernel
theorem dX5_tellsLike_1 : decode cX5_tellsLike 1 = .ok (.getfield 38, 3) := by decide +kernel
theorem dX5_tellsLike_4 : decode cX5_tellsLike 4 = .ok (.aload_n 1, 1) := by decide +kernel
theorem dX5_tellsLike_5 : decode cX5_tellsLike 5 = .ok (.getfield 38, 3) := by decide +kernel
theorem dX5_tellsLike_8 : decode cX5_tellsLike 8 = .ok (.if_icmp .ne 25, 3) := by decide +kernel
theorem dX5_tellsLike_11 : decode cX5_tellsLike 11 = .ok (.aload_n 0, 1) := by decide +kernel
theorem dX5_tellsLike_12 : decode cX5_tellsLike 12 = .ok (.getfield 41, 3) := by decide +kernel
theorem dX5_tellsLike_15 : decode cX5_tellsLike 15 = .ok (.aload_n 1, 1) := by decide +kernel
theorem dX5_tellsLike_16 : decode cX5_tellsLike 16 = .ok (.getfield 41, 3) := by decide +kernel
theorem dX5_tellsLike_19 : decode cX5_tellsLike 19 = .ok (.if_icmp .ne 14, 3) := by decide +kernel
theorem dX5_tellsLike_22 : decode cX5_tellsLike 22 = .ok (.aload_n 0, 1) := by decide +kernel
theorem dX5_tellsLike_23 : decode cX5_tellsLike 23 = .ok (.getfield 47, 3) := by decide +kernel
theorem dX5_tellsLike_26 : decode cX5_tellsLike 26 = .ok (.aload_n 1, 1) := by decide +kernel
theorem dX5_tellsLike_27 : decode cX5_tellsLike 27 = .ok (.getfield 47, 3) := by decide +kernel
theorem dX5_tellsLike_30 : decode cX5_tellsLike 30 = .ok (.if_icmp .eq 5, 3) := by decide +kernel
theorem dX5_tellsLike_33 : decode cX5_tellsLike 33 = .ok (.iconst 0, 1) := by decide +kernel
theorem dX5_tellsLike_34 : decode cX5_tellsLike 34 = .ok (.ireturn, 1) := by decide +kernel
theorem dX5_tellsLike_35 : decode cX5_tellsLike 35 = .ok (.iconst 0, 1) := by decide +kernel
theorem dX5_tellsLike_36 : decode cX5_tellsLike 36 = .ok (.istore_n 2, 1) := by decide +kernel
theorem dX5_tellsLike_37 : decode cX5_tellsLike 37 = .ok (.iload_n 2, 1) := by decide +kernel
theorem dX5_tellsLike_38 : decode cX5_tellsLike 38 = .ok (.aload_n 0, 1) := by decide +kernel
theorem dX5_tellsLike_39 : decode cX5_tellsLike 39 = .ok (.getfield 47, 3) := by decide +kernel
theorem dX5_tellsLike_42 : decode cX5_tellsLike 42 = .ok (.if_icmp .ge 35, 3) := by decide +kernel
theorem dX5_tellsLike_45 : decode cX5_tellsLike 45 = .ok (.iload_n 2, 1) := by decide +kernel
theorem dX5_tellsLike_46 : decode cX5_tellsLike 46 = .ok (.aload_n 0, 1) := by decide +kernel
theorem dX5_tellsLike_47 : decode cX5_tellsLike 47 = .ok (.getfield 11, 3) := by decide +kernel
theorem dX5_tellsLike_50 : decode cX5_tellsLike 50 = .ok (.arraylength, 1) := by decide +kernel
theorem dX5_tellsLike_51 : decode cX5_tellsLike 51 = .ok (.if_icmp .ge 26, 3) := by decide +kernel
theorem dX5_tellsLike_54 : decode cX5_tellsLike 54 = .ok (.aload_n 0, 1) := by decide +kernel
theorem dX5_tellsLike_55 : decode cX5_tellsLike 55 = .ok (.getfield 11, 3) := by decide +kernel
theorem dX5_tellsLike_58 : decode cX5_tellsLike 58 = .ok (.iload_n 2, 1) := by decide +kernel
theorem dX5_tellsLike_59 : decode cX5_tellsLike 59 = .ok (.iaload, 1) := by decide +kernel
theorem dX5_tellsLike_60 : decode cX5_tellsLike 60 = .ok (.aload_n 1, 1) := by decide +kernel
theorem dX5_tellsLike_61 : decode cX5_tellsLike 61 = .ok (.getfield 11, 3) := by decide +kernel
theorem dX5_tellsLike_64 : decode cX5_tellsLike 64 = .ok (.iload_n 2, 1) := by decide +kernel
theorem dX5_tellsLike_65 : decode cX5_tellsLike 65 = .ok (.iaload, 1) := by decide +kernel
theorem dX5_tellsLike_66 : decode cX5_tellsLike 66 = .ok (.if_icmp .eq 5, 3) := by decide +kernel
theorem dX5_tellsLike_69 : decode cX5_tellsLike 69 = .ok (.iconst 0, 1) := by decide +kernel
theorem dX5_tellsLike_70 : decode cX5_tellsLike 70 = .ok (.ireturn, 1) := by decide +kernel
theorem dX5_tellsLike_71 : decode cX5_tellsLike 71 = .ok (.iinc 2 1, 3) := by decide +kernel
theorem dX5_tellsLike_74 : decode cX5_tellsLike 74 = .ok (.goto (-37), 3) := by decide +kernel
theorem dX5_tellsLike_77 : decode cX5_tellsLike 77 = .ok (.iconst 1, 1) := by decide +kernel
theorem dX5_tellsLike_78 : decode cX5_tellsLike 78 = .ok (.ireturn, 1) := by decide +kernel
theorem dX5_obey_0 : decode cX5_obey 0 = .ok (.iload_n 1, 1) := by decide +kernel
theorem dX5_obey_1 : decode cX5_obey 1 = .ok (.tableswitch 177 0 16 #[83, 91, 99, 177, 177, 177, 177, 177, 177, 111, 119, 128, 136, 144, 153, 161, 169], 83) := by decide +kernel
theorem dX5_obey_84 : decode cX5_obey 84 = .ok (.aload_n 0, 1) := by decide +kernel
theorem dX5_obey_85 : decode cX5_obey 85 = .ok (.iload_n 3, 1) := by decide +kernel
theorem dX5_obey_86 : decode cX5_obey 86 = .ok (.invokevirtual 131, 3) := by decide +kernel
theorem dX5_obey_89 : decode cX5_obey 89 = .ok (.goto 94, 3) := by decide +kernel
theorem dX5_obey_92 : decode cX5_obey 92 = .ok (.aload_n 0, 1) := by decide +kernel
theorem dX5_obey_93 : decode cX5_obey 93 = .ok (.iload_n 2, 1) := by decide +kernel
theorem dX5_obey_94 : decode cX5_obey 94 = .ok (.invokevirtual 76, 3) := by decide +kernel
theorem dX5_obey_97 : decode cX5_obey 97 = .ok (.goto 86, 3) := by decide +kernel
theorem dX5_obey_100 : decode cX5_obey 100 = .ok (.aload_n 0, 1) := by decide +kernel
theorem dX5_obey_101 : decode cX5_obey 101 = .ok (.aload_n 0, 1) := by decide +kernel
theorem dX5_obey_102 : decode cX5_obey 102 = .ok (.iload_n 2, 1) := by decide +kernel
theorem dX5_obey_103 : decode cX5_obey 103 = .ok (.invokevirtual 134, 3) := by decide +kernel
theorem dX5_obey_106 : decode cX5_obey 106 = .ok (.invokevirtual 76, 3) := by decide +kernel
theorem dX5_obey_109 : decode cX5_obey 109 = .ok (.goto 74, 3) := by decide +kernel
theorem dX5_obey_112 : decode cX5_obey 112 = .ok (.aload_n 0, 1) := by decide +kernel
theorem dX5_obey_113 : decode cX5_obey 113 = .ok (.iload_n 2, 1) := by decide +kernel
theorem dX5_obey_114 : decode cX5_obey 114 = .ok (.invokevirtual 95, 3) := by decide +kernel
theorem dX5_obey_117 : decode cX5_obey 117 = .ok (.goto 66, 3) := by decide +kernel
theorem dX5_obey_120 : decode cX5_obey 120 = .ok (.aload_n 0, 1) := by decide +kernel
theorem dX5_obey_121 : decode cX5_obey 121 = .ok (.iload_n 2, 1) := by decide +kernel
theorem dX5_obey_122 : decode cX5_obey 122 = .ok (.iload_n 3, 1) := by decide +kernel
theorem dX5_obey_123 : decode cX5_obey 123 = .ok (.invokevirtual 138, 3) := by decide +kernel
theorem dX5_obey_126 : decode cX5_obey 126 = .ok (.goto 57, 3) := by decide +kernel
theorem dX5_obey_129 : decode cX5_obey 129 = .ok (.aload_n 0, 1) := by decide +kernel
theorem dX5_obey_130 : decode cX5_obey 130 = .ok (.iload_n 3, 1) := by decide +kernel
theorem dX5_obey_131 : decode cX5_obey 131 = .ok (.invokevirtual 142, 3) := by decide +kernel
theorem dX5_obey_134 : decode cX5_obey 134 = .ok (.goto 49, 3) := by decide +kernel
theorem dX5_obey_137 : decode cX5_obey 137 = .ok (.aload_n 0, 1) := by decide +kernel
theorem dX5_obey_138 : decode cX5_obey 138 = .ok (.iload_n 3, 1) := by decide +kernel
theorem dX5_obey_139 : decode cX5_obey 139 = .ok (.invokevirtual 145, 3) := by decide +kernel
theorem dX5_obey_142 : decode cX5_obey 142 = .ok (.goto 41, 3) := by decide +kernel
theorem dX5_obey_145 : decode cX5_obey 145 = .ok (.aload_n 0, 1) := by decide +kernel
theorem dX5_obey_146 : decode cX5_obey 146 = .ok (.iload_n 2, 1) := by decide +kernel
theorem dX5_obey_147 : decode cX5_obey 147 = .ok (.iload_n 3, 1) := by decide +kernel
theorem dX5_obey_148 : decode cX5_obey 148 = .ok (.invokevirtual 148, 3) := by decide +kernel
theorem dX5_obey_151 : decode cX5_obey 151 = .ok (.goto 32, 3) := by decide +kernel
theorem dX5_obey_154 : decode cX5_obey 154 = .ok (.aload_n 0, 1) := by decide +kernel
theorem dX5_obey_155 : decode cX5_obey 155 = .ok (.iload_n 2, 1) := by decide +kernel
theorem dX5_obey_156 : decode cX5_obey 156 = .ok (.invokevirtual 151, 3) := by decide +kernel
theorem dX5_obey_159 : decode cX5_obey 159 = .ok (.goto 24, 3) := by decide +kernel
theorem dX5_obey_162 : decode cX5_obey 162 = .ok (.aload_n 0, 1) := by decide +kernel
theorem dX5_obey_163 : decode cX5_obey 163 = .ok (.iload_n 2, 1) := by decide +kernel
theorem dX5_obey_164 : decode cX5_obey 164 = .ok (.putfield 103, 3) := by decide +kernel
theorem dX5_obey_167 : decode cX5_obey 167 = .ok (.goto 16, 3) := by decide +kernel
theorem dX5_obey_170 : decode cX5_obey 170 = .ok (.aload_n 0, 1) := by decide +kernel
theorem dX5_obey_171 : decode cX5_obey 171 = .ok (.iconst 0, 1) := by decide +kernel
theorem dX5_obey_172 : decode cX5_obey 172 = .ok (.invokevirtual 154, 3) := by decide +kernel
theorem dX5_obey_175 : decode cX5_obey 175 = .ok (.goto 8, 3) := by decide +kernel
theorem dX5_obey_178 : decode cX5_obey 178 = .ok (.aload_n 0, 1) := by decide +kernel
theorem dX5_obey_179 : decode cX5_obey 179 = .ok (.iload_n 1, 1) := by decide +kernel
theorem dX5_obey_180 : decode cX5_obey 180 = .ok (.invokevirtual 157, 3) := by decide +kernel
theorem dX5_obey_183 : decode cX5_obey 183 = .ok (.return_, 1) := by decide +kernel
theorem dX5_reckon_0 : decode cX5_reckon 0 = .ok (.aload_n 0, 1) := by decide +kernel
theorem dX5_reckon_1 : decode cX5_reckon 1 = .ok (.invokevirtual 160, 3) := by decide +kernel
theorem dX5_reckon_4 : decode cX5_reckon 4 = .ok (.istore_n 2, 1) := by decide +kernel
theorem dX5_reckon_5 : decode cX5_reckon 5 = .ok (.aload_n 0, 1) := by decide +kernel
theorem dX5_reckon_6 : decode cX5_reckon 6 = .ok (.invokevirtual 160, 3) := by decide +kernel
theorem dX5_reckon_9 : decode cX5_reckon 9 = .ok (.istore_n 3, 1) := by decide +kernel
theorem dX5_reckon_10 : decode cX5_reckon 10 = .ok (.iload_n 1, 1) := by decide +kernel
theorem dX5_reckon_11 : decode cX5_reckon 11 = .ok (.tableswitch 137 3 7 #[33, 43, 67, 91, 120], 33) := by decide +kernel
theorem dX5_reckon_44 : decode cX5_reckon 44 = .ok (.aload_n 0, 1) := by decide +kernel
theorem dX5_reckon_45 : decode cX5_reckon 45 = .ok (.iload_n 3, 1) := by decide +kernel
theorem dX5_reckon_46 : decode cX5_reckon 46 = .ok (.iload_n 2, 1) := by decide +kernel
theorem dX5_reckon_47 : decode cX5_reckon 47 = .ok (.iadd, 1) := by decide +kernel
theorem dX5_reckon_48 : decode cX5_reckon 48 = .ok (.invokevirtual 76, 3) := by decide +kernel
theorem dX5_reckon_51 : decode cX5_reckon 51 = .ok (.goto 111, 3) := by decide +kernel
theorem dX5_reckon_54 : decode cX5_reckon 54 = .ok (.aload_n 0, 1) := by decide +kernel
theorem dX5_reckon_55 : decode cX5_reckon 55 = .ok (.aload_n 0, 1) := by decide +kernel
theorem dX5_reckon_56 : decode cX5_reckon 56 = .ok (.getfield 35, 3) := by decide +kernel
theorem dX5_reckon_59 : decode cX5_reckon 59 = .ok (.iconst 1, 1) := by decide +kernel
theorem dX5_reckon_60 : decode cX5_reckon 60 = .ok (.if_icmp .ne 9, 3) := by decide +kernel
theorem dX5_reckon_63 : decode cX5_reckon 63 = .ok (.iload_n 2, 1) := by decide +kernel
theorem dX5_reckon_64 : decode cX5_reckon 64 = .ok (.iload_n 3, 1) := by decide +kernel
theorem dX5_reckon_65 : decode cX5_reckon 65 = .ok (.isub, 1) := by decide +kernel
theorem dX5_reckon_66 : decode cX5_reckon 66 = .ok (.goto 6, 3) := by decide +kernel
theorem dX5_reckon_69 : decode cX5_reckon 69 = .ok (.iload_n 3, 1) := by decide +kernel
theorem dX5_reckon_70 : decode cX5_reckon 70 = .ok (.iload_n 2, 1) := by decide +kernel
theorem dX5_reckon_71 : decode cX5_reckon 71 = .ok (.isub, 1) := by decide +kernel
theorem dX5_reckon_72 : decode cX5_reckon 72 = .ok (.invokevirtual 76, 3) := by decide +kernel
theorem dX5_reckon_75 : decode cX5_reckon 75 = .ok (.goto 87, 3) := by decide +kernel
theorem dX5_reckon_78 : decode cX5_reckon 78 = .ok (.aload_n 0, 1) := by decide +kernel
theorem dX5_reckon_79 : decode cX5_reckon 79 = .ok (.aload_n 0, 1) := by decide +kernel
theorem dX5_reckon_80 : decode cX5_reckon 80 = .ok (.getfield 35, 3) := by decide +kernel
theorem dX5_reckon_83 : decode cX5_reckon 83 = .ok (.iconst 3, 1) := by decide +kernel
theorem dX5_reckon_84 : decode cX5_reckon 84 = .ok (.if_icmp .ne 9, 3) := by decide +kernel
theorem dX5_reckon_87 : decode cX5_reckon 87 = .ok (.iload_n 3, 1) := by decide +kernel
theorem dX5_reckon_88 : decode cX5_reckon 88 = .ok (.iload_n 2, 1) := by decide +kernel
theorem dX5_reckon_89 : decode cX5_reckon 89 = .ok (.iadd, 1) := by decide +kernel
theorem dX5_reckon_90 : decode cX5_reckon 90 = .ok (.goto 6, 3) := by decide +kernel
theorem dX5_reckon_93 : decode cX5_reckon 93 = .ok (.iload_n 3, 1) := by decide +kernel
theorem dX5_reckon_94 : decode cX5_reckon 94 = .ok (.iload_n 2, 1) := by decide +kernel
theorem dX5_reckon_95 : decode cX5_reckon 95 = .ok (.imul, 1) := by decide +kernel
theorem dX5_reckon_96 : decode cX5_reckon 96 = .ok (.invokevirtual 76, 3) := by decide +kernel
theorem dX5_reckon_99 : decode cX5_reckon 99 = .ok (.goto 63, 3) := by decide +kernel
theorem dX5_reckon_102 : decode cX5_reckon 102 = .ok (.aload_n 0, 1) := by decide +kernel
theorem dX5_reckon_103 : decode cX5_reckon 103 = .ok (.iload_n 3, 1) := by decide +kernel
theorem dX5_reckon_104 : decode cX5_reckon 104 = .ok (.iload_n 2, 1) := by decide +kernel
theorem dX5_reckon_105 : decode cX5_reckon 105 = .ok (.if_icmp .lt 15, 3) := by decide +kernel
theorem dX5_reckon_108 : decode cX5_reckon 108 = .ok (.aload_n 0, 1) := by decide +kernel
theorem dX5_reckon_109 : decode cX5_reckon 109 = .ok (.getfield 35, 3) := by decide +kernel
theorem dX5_reckon_112 : decode cX5_reckon 112 = .ok (.ifCond .ne 12, 3) := by decide +kernel
theorem dX5_reckon_115 : decode cX5_reckon 115 = .ok (.iload_n 3, 1) := by decide +kernel
theorem dX5_reckon_116 : decode cX5_reckon 116 = .ok (.iload_n 2, 1) := by decide +kernel
theorem dX5_reckon_117 : decode cX5_reckon 117 = .ok (.if_icmp .ne 7, 3) := by decide +kernel
theorem dX5_reckon_120 : decode cX5_reckon 120 = .ok (.iconst 1, 1) := by decide +kernel
theorem dX5_reckon_121 : decode cX5_reckon 121 = .ok (.goto 4, 3) := by decide +kernel
theorem dX5_reckon_124 : decode cX5_reckon 124 = .ok (.iconst 0, 1) := by decide +kernel
theorem dX5_reckon_125 : decode cX5_reckon 125 = .ok (.invokevirtual 76, 3) := by decide +kernel
theorem dX5_reckon_128 : decode cX5_reckon 128 = .ok (.goto 34, 3) := by decide +kernel
theorem dX5_reckon_131 : decode cX5_reckon 131 = .ok (.aload_n 0, 1) := by decide +kernel
theorem dX5_reckon_132 : decode cX5_reckon 132 = .ok (.iload_n 3, 1) := by decide +kernel
theorem dX5_reckon_133 : decode cX5_reckon 133 = .ok (.iload_n 2, 1) := by decide +kernel
theorem dX5_reckon_134 : decode cX5_reckon 134 = .ok (.if_icmp .le 7, 3) := by decide +kernel
theorem dX5_reckon_137 : decode cX5_reckon 137 = .ok (.iconst 1, 1) := by decide +kernel
theorem dX5_reckon_138 : decode cX5_reckon 138 = .ok (.goto 4, 3) := by decide +kernel
theorem dX5_reckon_141 : decode cX5_reckon 141 = .ok (.iconst 0, 1) := by decide +kernel
theorem dX5_reckon_142 : decode cX5_reckon 142 = .ok (.invokevirtual 76, 3) := by decide +kernel
theorem dX5_reckon_145 : decode cX5_reckon 145 = .ok (.goto 17, 3) := by decide +kernel
theorem dX5_reckon_148 : decode cX5_reckon 148 = .ok (.aload_n 0, 1) := by decide +kernel
theorem dX5_reckon_149 : decode cX5_reckon 149 = .ok (.iload_n 3, 1) := by decide +kernel
theorem dX5_reckon_150 : decode cX5_reckon 150 = .ok (.iload_n 2, 1) := by decide +kernel
theorem dX5_reckon_151 : decode cX5_reckon 151 = .ok (.if_icmp .ne 7, 3) := by decide +kernel
theorem dX5_reckon_154 : decode cX5_reckon 154 = .ok (.iconst 1, 1) := by decide +kernel
theorem dX5_reckon_155 : decode cX5_reckon 155 = .ok (.goto 4, 3) := by decide +kernel
theorem dX5_reckon_158 : decode cX5_reckon 158 = .ok (.iconst 0, 1) := by decide +kernel
theorem dX5_reckon_159 : decode cX5_reckon 159 = .ok (.invokevirtual 76, 3) := by decide +kernel
theorem dX5_reckon_162 : decode cX5_reckon 162 = .ok (.return_, 1) := by decide +kernel
theorem dX5_begin_0 : decode cX5_begin 0 = .ok (.aload_n 0, 1) := by decide +kernel
theorem dX5_begin_1 : decode cX5_begin 1 = .ok (.invokevirtual 164, 3) := by decide +kernel
theorem dX5_begin_4 : decode cX5_begin 4 = .ok (.ifCond .eq 15, 3) := by decide +kernel
theorem dX5_begin_7 : decode cX5_begin 7 = .ok (.aload_n 0, 1) := by decide +kernel
theorem dX5_begin_8 : decode cX5_begin 8 = .ok (.dup, 1) := by decide +kernel
theorem dX5_begin_9 : decode cX5_begin 9 = .ok (.getfield 56, 3) := by decide +kernel
theorem dX5_begin_12 : decode cX5_begin 12 = .ok (.lconst 1, 1) := by decide +kernel
theorem dX5_begin_13 : decode cX5_begin 13 = .ok (.iload_n 1, 1) := by decide +kernel
theorem dX5_begin_14 : decode cX5_begin 14 = .ok (.lshl, 1) := by decide +kernel
theorem dX5_begin_15 : decode cX5_begin 15 = .ok (.lor, 1) := by decide +kernel
theorem dX5_begin_16 : decode cX5_begin 16 = .ok (.putfield 56, 3) := by decide +kernel
theorem dX5_begin_19 : decode cX5_begin 19 = .ok (.return_, 1) := by decide +kernel
theorem dX5_spendStep_0 : decode cX5_spendStep 0 = .ok (.aload_n 0, 1) := by decide +kernel
theorem dX5_spendStep_1 : decode cX5_spendStep 1 = .ok (.getfield 44, 3) := by decide +kernel
theorem dX5_spendStep_4 : decode cX5_spendStep 4 = .ok (.aload_n 0, 1) := by decide +kernel
theorem dX5_spendStep_5 : decode cX5_spendStep 5 = .ok (.getfield 31, 3) := by decide +kernel
theorem dX5_spendStep_8 : decode cX5_spendStep 8 = .ok (.if_icmp .lt 10, 3) := by decide +kernel
theorem dX5_spendStep_11 : decode cX5_spendStep 11 = .ok (.aload_n 0, 1) := by decide +kernel
theorem dX5_spendStep_12 : decode cX5_spendStep 12 = .ok (.iconst 1, 1) := by decide +kernel
theorem dX5_spendStep_13 : decode cX5_spendStep 13 = .ok (.invokevirtual 168, 3) := by decide +kernel
theorem dX5_spendStep_16 : decode cX5_spendStep 16 = .ok (.iconst 0, 1) := by decide +kernel
theorem dX5_spendStep_17 : decode cX5_spendStep 17 = .ok (.ireturn, 1) := by decide +kernel
theorem dX5_spendStep_18 : decode cX5_spendStep 18 = .ok (.aload_n 0, 1) := by decide +kernel
theorem dX5_spendStep_19 : decode cX5_spendStep 19 = .ok (.dup, 1) := by decide +kernel
theorem dX5_spendStep_20 : decode cX5_spendStep 20 = .ok (.getfield 44, 3) := by decide +kernel
theorem dX5_spendStep_23 : decode cX5_spendStep 23 = .ok (.iconst 1, 1) := by decide +kernel
theorem dX5_spendStep_24 : decode cX5_spendStep 24 = .ok (.iadd, 1) := by decide +kernel
theorem dX5_spendStep_25 : decode cX5_spendStep 25 = .ok (.putfield 44, 3) := by decide +kernel
theorem dX5_spendStep_28 : decode cX5_spendStep 28 = .ok (.iconst 1, 1) := by decide +kernel
theorem dX5_spendStep_29 : decode cX5_spendStep 29 = .ok (.ireturn, 1) := by decide +kernel
theorem dX5_stop_0 : decode cX5_stop 0 = .ok (.aload_n 0, 1) := by decide +kernel
theorem dX5_stop_1 : decode cX5_stop 1 = .ok (.iload_n 1, 1) := by decide +kernel
theorem dX5_stop_2 : decode cX5_stop 2 = .ok (.putfield 38, 3) := by decide +kernel
theorem dX5_stop_5 : decode cX5_stop 5 = .ok (.aload_n 0, 1) := by decide +kernel
theorem dX5_stop_6 : decode cX5_stop 6 = .ok (.iconst 0, 1) := by decide +kernel
theorem dX5_stop_7 : decode cX5_stop 7 = .ok (.putfield 66, 3) := by decide +kernel
theorem dX5_stop_10 : decode cX5_stop 10 = .ok (.return_, 1) := by decide +kernel
theorem dX5_enter_0 : decode cX5_enter 0 = .ok (.aload_n 0, 1) := by decide +kernel
theorem dX5_enter_1 : decode cX5_enter 1 = .ok (.getfield 60, 3) := by decide +kernel
theorem dX5_enter_4 : decode cX5_enter 4 = .ok (.bipush 8, 2) := by decide +kernel
theorem dX5_enter_6 : decode cX5_enter 6 = .ok (.if_icmp .lt 9, 3) := by decide +kernel
theorem dX5_enter_9 : decode cX5_enter 9 = .ok (.aload_n 0, 1) := by decide +kernel
theorem dX5_enter_10 : decode cX5_enter 10 = .ok (.iconst 2, 1) := by decide +kernel
theorem dX5_enter_11 : decode cX5_enter 11 = .ok (.invokevirtual 168, 3) := by decide +kernel
theorem dX5_enter_14 : decode cX5_enter 14 = .ok (.return_, 1) := by decide +kernel
theorem dX5_enter_15 : decode cX5_enter 15 = .ok (.aload_n 0, 1) := by decide +kernel
theorem dX5_enter_16 : decode cX5_enter 16 = .ok (.getfield 27, 3) := by decide +kernel
theorem dX5_enter_19 : decode cX5_enter 19 = .ok (.iload_n 1, 1) := by decide +kernel
theorem dX5_enter_20 : decode cX5_enter 20 = .ok (.invokevirtual 70, 3) := by decide +kernel
theorem dX5_enter_23 : decode cX5_enter 23 = .ok (.ifCond .ne 4, 3) := by decide +kernel
theorem dX5_enter_26 : decode cX5_enter 26 = .ok (.return_, 1) := by decide +kernel
theorem dX5_enter_27 : decode cX5_enter 27 = .ok (.aload_n 0, 1) := by decide +kernel
theorem dX5_enter_28 : decode cX5_enter 28 = .ok (.getfield 27, 3) := by decide +kernel
theorem dX5_enter_31 : decode cX5_enter 31 = .ok (.getfield 80, 3) := by decide +kernel
theorem dX5_enter_34 : decode cX5_enter 34 = .ok (.iload_n 1, 1) := by decide +kernel
theorem dX5_enter_35 : decode cX5_enter 35 = .ok (.aaload, 1) := by decide +kernel
theorem dX5_enter_36 : decode cX5_enter 36 = .ok (.astore_n 2, 1) := by decide +kernel
theorem dX5_enter_37 : decode cX5_enter 37 = .ok (.aload_n 0, 1) := by decide +kernel
theorem dX5_enter_38 : decode cX5_enter 38 = .ok (.getfield 21, 3) := by decide +kernel
theorem dX5_enter_41 : decode cX5_enter 41 = .ok (.aload_n 0, 1) := by decide +kernel
theorem dX5_enter_42 : decode cX5_enter 42 = .ok (.getfield 60, 3) := by decide +kernel
theorem dX5_enter_45 : decode cX5_enter 45 = .ok (.aload_n 0, 1) := by decide +kernel
theorem dX5_enter_46 : decode cX5_enter 46 = .ok (.getfield 103, 3) := by decide +kernel
theorem dX5_enter_49 : decode cX5_enter 49 = .ok (.iastore, 1) := by decide +kernel
theorem dX5_enter_50 : decode cX5_enter 50 = .ok (.aload_n 0, 1) := by decide +kernel
theorem dX5_enter_51 : decode cX5_enter 51 = .ok (.dup, 1) := by decide +kernel
theorem dX5_enter_52 : decode cX5_enter 52 = .ok (.getfield 60, 3) := by decide +kernel
theorem dX5_enter_55 : decode cX5_enter 55 = .ok (.iconst 1, 1) := by decide +kernel
theorem dX5_enter_56 : decode cX5_enter 56 = .ok (.iadd, 1) := by decide +kernel
theorem dX5_enter_57 : decode cX5_enter 57 = .ok (.putfield 60, 3) := by decide +kernel
theorem dX5_enter_60 : decode cX5_enter 60 = .ok (.aload_n 0, 1) := by decide +kernel
theorem dX5_enter_61 : decode cX5_enter 61 = .ok (.aload_n 0, 1) := by decide +kernel
theorem dX5_enter_62 : decode cX5_enter 62 = .ok (.getfield 53, 3) := by decide +kernel
theorem dX5_enter_65 : decode cX5_enter 65 = .ok (.aload_n 0, 1) := by decide +kernel
theorem dX5_enter_66 : decode cX5_enter 66 = .ok (.getfield 60, 3) := by decide +kernel
theorem dX5_enter_69 : decode cX5_enter 69 = .ok (.invokestatic 171, 3) := by decide +kernel
theorem dX5_enter_72 : decode cX5_enter 72 = .ok (.putfield 53, 3) := by decide +kernel
theorem dX5_enter_75 : decode cX5_enter 75 = .ok (.iconst 0, 1) := by decide +kernel
theorem dX5_enter_76 : decode cX5_enter 76 = .ok (.istore_n 3, 1) := by decide +kernel
theorem dX5_enter_77 : decode cX5_enter 77 = .ok (.iload_n 3, 1) := by decide +kernel
theorem dX5_enter_78 : decode cX5_enter 78 = .ok (.bipush 8, 2) := by decide +kernel
theorem dX5_enter_80 : decode cX5_enter 80 = .ok (.if_icmp .ge 15, 3) := by decide +kernel
theorem dX5_enter_83 : decode cX5_enter 83 = .ok (.aload_n 0, 1) := by decide +kernel
theorem dX5_enter_84 : decode cX5_enter 84 = .ok (.iload_n 3, 1) := by decide +kernel
theorem dX5_enter_85 : decode cX5_enter 85 = .ok (.iconst 0, 1) := by decide +kernel
theorem dX5_enter_86 : decode cX5_enter 86 = .ok (.invokevirtual 174, 3) := by decide +kernel
theorem dX5_enter_89 : decode cX5_enter 89 = .ok (.iinc 3 1, 3) := by decide +kernel
theorem dX5_enter_92 : decode cX5_enter 92 = .ok (.goto (-15), 3) := by decide +kernel
theorem dX5_enter_95 : decode cX5_enter 95 = .ok (.aload_n 2, 1) := by decide +kernel
theorem dX5_enter_96 : decode cX5_enter 96 = .ok (.getfield 84, 3) := by decide +kernel
theorem dX5_enter_99 : decode cX5_enter 99 = .ok (.iconst 1, 1) := by decide +kernel
theorem dX5_enter_100 : decode cX5_enter 100 = .ok (.isub, 1) := by decide +kernel
theorem dX5_enter_101 : decode cX5_enter 101 = .ok (.istore_n 3, 1) := by decide +kernel
theorem dX5_enter_102 : decode cX5_enter 102 = .ok (.iload_n 3, 1) := by decide +kernel
theorem dX5_enter_103 : decode cX5_enter 103 = .ok (.ifCond .lt 22, 3) := by decide +kernel
theorem dX5_enter_106 : decode cX5_enter 106 = .ok (.aload_n 0, 1) := by decide +kernel
theorem dX5_enter_107 : decode cX5_enter 107 = .ok (.aload_n 2, 1) := by decide +kernel
theorem dX5_enter_108 : decode cX5_enter 108 = .ok (.iload_n 3, 1) := by decide +kernel
theorem dX5_enter_109 : decode cX5_enter 109 = .ok (.invokevirtual 177, 3) := by decide +kernel
theorem dX5_enter_112 : decode cX5_enter 112 = .ok (.aload_n 0, 1) := by decide +kernel
theorem dX5_enter_113 : decode cX5_enter 113 = .ok (.invokevirtual 160, 3) := by decide +kernel
theorem dX5_enter_116 : decode cX5_enter 116 = .ok (.invokevirtual 174, 3) := by decide +kernel
theorem dX5_enter_119 : decode cX5_enter 119 = .ok (.iinc 3 (-1), 3) := by decide +kernel
theorem dX5_enter_122 : decode cX5_enter 122 = .ok (.goto (-20), 3) := by decide +kernel
theorem dX5_enter_125 : decode cX5_enter 125 = .ok (.aload_n 0, 1) := by decide +kernel
theorem dX5_enter_126 : decode cX5_enter 126 = .ok (.aload_n 2, 1) := by decide +kernel
theorem dX5_enter_127 : decode cX5_enter 127 = .ok (.getfield 180, 3) := by decide +kernel
theorem dX5_enter_130 : decode cX5_enter 130 = .ok (.putfield 103, 3) := by decide +kernel
theorem dX5_enter_133 : decode cX5_enter 133 = .ok (.return_, 1) := by decide +kernel
theorem dX5_leave_0 : decode cX5_leave 0 = .ok (.aload_n 0, 1) := by decide +kernel
theorem dX5_leave_1 : decode cX5_leave 1 = .ok (.dup, 1) := by decide +kernel
theorem dX5_leave_2 : decode cX5_leave 2 = .ok (.getfield 60, 3) := by decide +kernel
theorem dX5_leave_5 : decode cX5_leave 5 = .ok (.iconst 1, 1) := by decide +kernel
theorem dX5_leave_6 : decode cX5_leave 6 = .ok (.isub, 1) := by decide +kernel
theorem dX5_leave_7 : decode cX5_leave 7 = .ok (.putfield 60, 3) := by decide +kernel
theorem dX5_leave_10 : decode cX5_leave 10 = .ok (.aload_n 0, 1) := by decide +kernel
theorem dX5_leave_11 : decode cX5_leave 11 = .ok (.getfield 60, 3) := by decide +kernel
theorem dX5_leave_14 : decode cX5_leave 14 = .ok (.ifCond .le 15, 3) := by decide +kernel
theorem dX5_leave_17 : decode cX5_leave 17 = .ok (.aload_n 0, 1) := by decide +kernel
theorem dX5_leave_18 : decode cX5_leave 18 = .ok (.getfield 60, 3) := by decide +kernel
theorem dX5_leave_21 : decode cX5_leave 21 = .ok (.aload_n 0, 1) := by decide +kernel
theorem dX5_leave_22 : decode cX5_leave 22 = .ok (.getfield 21, 3) := by decide +kernel
theorem dX5_leave_25 : decode cX5_leave 25 = .ok (.arraylength, 1) := by decide +kernel
theorem dX5_leave_26 : decode cX5_leave 26 = .ok (.if_icmp .lt 14, 3) := by decide +kernel
theorem dX5_leave_29 : decode cX5_leave 29 = .ok (.aload_n 0, 1) := by decide +kernel
theorem dX5_leave_30 : decode cX5_leave 30 = .ok (.iload_n 1, 1) := by decide +kernel
theorem dX5_leave_31 : decode cX5_leave 31 = .ok (.putfield 41, 3) := by decide +kernel
theorem dX5_leave_34 : decode cX5_leave 34 = .ok (.aload_n 0, 1) := by decide +kernel
theorem dX5_leave_35 : decode cX5_leave 35 = .ok (.iconst 0, 1) := by decide +kernel
theorem dX5_leave_36 : decode cX5_leave 36 = .ok (.invokevirtual 168, 3) := by decide +kernel
theorem dX5_leave_39 : decode cX5_leave 39 = .ok (.return_, 1) := by decide +kernel
theorem dX5_leave_40 : decode cX5_leave 40 = .ok (.aload_n 0, 1) := by decide +kernel
theorem dX5_leave_41 : decode cX5_leave 41 = .ok (.aload_n 0, 1) := by decide +kernel
theorem dX5_leave_42 : decode cX5_leave 42 = .ok (.getfield 21, 3) := by decide +kernel
theorem dX5_leave_45 : decode cX5_leave 45 = .ok (.aload_n 0, 1) := by decide +kernel
theorem dX5_leave_46 : decode cX5_leave 46 = .ok (.getfield 60, 3) := by decide +kernel
theorem dX5_leave_49 : decode cX5_leave 49 = .ok (.iaload, 1) := by decide +kernel
theorem dX5_leave_50 : decode cX5_leave 50 = .ok (.putfield 103, 3) := by decide +kernel
theorem dX5_leave_53 : decode cX5_leave 53 = .ok (.aload_n 0, 1) := by decide +kernel
theorem dX5_leave_54 : decode cX5_leave 54 = .ok (.iload_n 1, 1) := by decide +kernel
theorem dX5_leave_55 : decode cX5_leave 55 = .ok (.invokevirtual 76, 3) := by decide +kernel
theorem dX5_leave_58 : decode cX5_leave 58 = .ok (.return_, 1) := by decide +kernel
theorem dX5_set_0 : decode cX5_set 0 = .ok (.aload_n 0, 1) := by decide +kernel
theorem dX5_set_1 : decode cX5_set 1 = .ok (.invokevirtual 160, 3) := by decide +kernel
theorem dX5_set_4 : decode cX5_set 4 = .ok (.istore_n 3, 1) := by decide +kernel
theorem dX5_set_5 : decode cX5_set 5 = .ok (.aload_n 0, 1) := by decide +kernel
theorem dX5_set_6 : decode cX5_set 6 = .ok (.iload_n 2, 1) := by decide +kernel
theorem dX5_set_7 : decode cX5_set 7 = .ok (.iload_n 1, 1) := by decide +kernel
theorem dX5_set_8 : decode cX5_set 8 = .ok (.aload_n 0, 1) := by decide +kernel
theorem dX5_set_9 : decode cX5_set 9 = .ok (.iload_n 1, 1) := by decide +kernel
theorem dX5_set_10 : decode cX5_set 10 = .ok (.invokevirtual 134, 3) := by decide +kernel
theorem dX5_set_13 : decode cX5_set 13 = .ok (.iload_n 3, 1) := by decide +kernel
theorem dX5_set_14 : decode cX5_set 14 = .ok (.invokevirtual 183, 3) := by decide +kernel
theorem dX5_set_17 : decode cX5_set 17 = .ok (.aload_n 0, 1) := by decide +kernel
theorem dX5_set_18 : decode cX5_set 18 = .ok (.iload_n 1, 1) := by decide +kernel
theorem dX5_set_19 : decode cX5_set 19 = .ok (.iload_n 3, 1) := by decide +kernel
theorem dX5_set_20 : decode cX5_set 20 = .ok (.invokevirtual 174, 3) := by decide +kernel
theorem dX5_set_23 : decode cX5_set 23 = .ok (.return_, 1) := by decide +kernel
theorem dX5_say_0 : decode cX5_say 0 = .ok (.aload_n 0, 1) := by decide +kernel
theorem dX5_say_1 : decode cX5_say 1 = .ok (.invokevirtual 160, 3) := by decide +kernel
theorem dX5_say_4 : decode cX5_say 4 = .ok (.istore_n 2, 1) := by decide +kernel
theorem dX5_say_5 : decode cX5_say 5 = .ok (.aload_n 0, 1) := by decide +kernel
theorem dX5_say_6 : decode cX5_say 6 = .ok (.getfield 47, 3) := by decide +kernel
theorem dX5_say_9 : decode cX5_say 9 = .ok (.aload_n 0, 1) := by decide +kernel
theorem dX5_say_10 : decode cX5_say 10 = .ok (.getfield 11, 3) := by decide +kernel
theorem dX5_say_13 : decode cX5_say 13 = .ok (.arraylength, 1) := by decide +kernel
theorem dX5_say_14 : decode cX5_say 14 = .ok (.if_icmp .ge 13, 3) := by decide +kernel
theorem dX5_say_17 : decode cX5_say 17 = .ok (.aload_n 0, 1) := by decide +kernel
theorem dX5_say_18 : decode cX5_say 18 = .ok (.getfield 11, 3) := by decide +kernel
theorem dX5_say_21 : decode cX5_say 21 = .ok (.aload_n 0, 1) := by decide +kernel
theorem dX5_say_22 : decode cX5_say 22 = .ok (.getfield 47, 3) := by decide +kernel
theorem dX5_say_25 : decode cX5_say 25 = .ok (.iload_n 2, 1) := by decide +kernel
theorem dX5_say_26 : decode cX5_say 26 = .ok (.iastore, 1) := by decide +kernel
theorem dX5_say_27 : decode cX5_say 27 = .ok (.aload_n 0, 1) := by decide +kernel
theorem dX5_say_28 : decode cX5_say 28 = .ok (.dup, 1) := by decide +kernel
theorem dX5_say_29 : decode cX5_say 29 = .ok (.getfield 47, 3) := by decide +kernel
theorem dX5_say_32 : decode cX5_say 32 = .ok (.iconst 1, 1) := by decide +kernel
theorem dX5_say_33 : decode cX5_say 33 = .ok (.iadd, 1) := by decide +kernel
theorem dX5_say_34 : decode cX5_say 34 = .ok (.putfield 47, 3) := by decide +kernel
theorem dX5_say_37 : decode cX5_say 37 = .ok (.aload_n 0, 1) := by decide +kernel
theorem dX5_say_38 : decode cX5_say 38 = .ok (.iload_n 1, 1) := by decide +kernel
theorem dX5_say_39 : decode cX5_say 39 = .ok (.iconst (-1), 1) := by decide +kernel
theorem dX5_say_40 : decode cX5_say 40 = .ok (.iconst 0, 1) := by decide +kernel
theorem dX5_say_41 : decode cX5_say 41 = .ok (.iload_n 2, 1) := by decide +kernel
theorem dX5_say_42 : decode cX5_say 42 = .ok (.invokevirtual 183, 3) := by decide +kernel
theorem dX5_say_45 : decode cX5_say 45 = .ok (.return_, 1) := by decide +kernel
theorem dX5_giveBack_0 : decode cX5_giveBack 0 = .ok (.aload_n 0, 1) := by decide +kernel
theorem dX5_giveBack_1 : decode cX5_giveBack 1 = .ok (.invokevirtual 160, 3) := by decide +kernel
theorem dX5_giveBack_4 : decode cX5_giveBack 4 = .ok (.istore_n 2, 1) := by decide +kernel
theorem dX5_giveBack_5 : decode cX5_giveBack 5 = .ok (.aload_n 0, 1) := by decide +kernel
theorem dX5_giveBack_6 : decode cX5_giveBack 6 = .ok (.iload_n 1, 1) := by decide +kernel
theorem dX5_giveBack_7 : decode cX5_giveBack 7 = .ok (.iconst (-1), 1) := by decide +kernel
theorem dX5_giveBack_8 : decode cX5_giveBack 8 = .ok (.iconst 0, 1) := by decide +kernel
theorem dX5_giveBack_9 : decode cX5_giveBack 9 = .ok (.iload_n 2, 1) := by decide +kernel
theorem dX5_giveBack_10 : decode cX5_giveBack 10 = .ok (.invokevirtual 183, 3) := by decide +kernel
theorem dX5_giveBack_13 : decode cX5_giveBack 13 = .ok (.aload_n 0, 1) := by decide +kernel
theorem dX5_giveBack_14 : decode cX5_giveBack 14 = .ok (.iload_n 2, 1) := by decide +kernel
theorem dX5_giveBack_15 : decode cX5_giveBack 15 = .ok (.invokevirtual 154, 3) := by decide +kernel
theorem dX5_giveBack_18 : decode cX5_giveBack 18 = .ok (.return_, 1) := by decide +kernel
theorem dX5_branch_0 : decode cX5_branch 0 = .ok (.aload_n 0, 1) := by decide +kernel
theorem dX5_branch_1 : decode cX5_branch 1 = .ok (.invokevirtual 160, 3) := by decide +kernel
theorem dX5_branch_4 : decode cX5_branch 4 = .ok (.istore_n 3, 1) := by decide +kernel
theorem dX5_branch_5 : decode cX5_branch 5 = .ok (.aload_n 0, 1) := by decide +kernel
theorem dX5_branch_6 : decode cX5_branch 6 = .ok (.iload_n 2, 1) := by decide +kernel
theorem dX5_branch_7 : decode cX5_branch 7 = .ok (.iconst (-1), 1) := by decide +kernel
theorem dX5_branch_8 : decode cX5_branch 8 = .ok (.iconst 0, 1) := by decide +kernel
theorem dX5_branch_9 : decode cX5_branch 9 = .ok (.iload_n 3, 1) := by decide +kernel
theorem dX5_branch_10 : decode cX5_branch 10 = .ok (.invokevirtual 183, 3) := by decide +kernel
theorem dX5_branch_13 : decode cX5_branch 13 = .ok (.iload_n 3, 1) := by decide +kernel
theorem dX5_branch_14 : decode cX5_branch 14 = .ok (.ifCond .ne 8, 3) := by decide +kernel
theorem dX5_branch_17 : decode cX5_branch 17 = .ok (.aload_n 0, 1) := by decide +kernel
theorem dX5_branch_18 : decode cX5_branch 18 = .ok (.iload_n 1, 1) := by decide +kernel
theorem dX5_branch_19 : decode cX5_branch 19 = .ok (.putfield 103, 3) := by decide +kernel
theorem dX5_branch_22 : decode cX5_branch 22 = .ok (.return_, 1) := by decide +kernel
theorem dX5_again_0 : decode cX5_again 0 = .ok (.aload_n 0, 1) := by decide +kernel
theorem dX5_again_1 : decode cX5_again 1 = .ok (.getfield 35, 3) := by decide +kernel
theorem dX5_again_4 : decode cX5_again 4 = .ok (.iconst 2, 1) := by decide +kernel
theorem dX5_again_5 : decode cX5_again 5 = .ok (.if_icmp .eq 15, 3) := by decide +kernel
theorem dX5_again_8 : decode cX5_again 8 = .ok (.aload_n 0, 1) := by decide +kernel
theorem dX5_again_9 : decode cX5_again 9 = .ok (.invokevirtual 164, 3) := by decide +kernel
theorem dX5_again_12 : decode cX5_again 12 = .ok (.ifCond .eq 8, 3) := by decide +kernel
theorem dX5_again_15 : decode cX5_again 15 = .ok (.aload_n 0, 1) := by decide +kernel
theorem dX5_again_16 : decode cX5_again 16 = .ok (.iload_n 1, 1) := by decide +kernel
theorem dX5_again_17 : decode cX5_again 17 = .ok (.putfield 103, 3) := by decide +kernel
theorem dX5_again_20 : decode cX5_again 20 = .ok (.return_, 1) := by decide +kernel
theorem dX5_note_0 : decode cX5_note 0 = .ok (.aload_n 0, 1) := by decide +kernel
theorem dX5_note_1 : decode cX5_note 1 = .ok (.getfield 50, 3) := by decide +kernel
theorem dX5_note_4 : decode cX5_note 4 = .ok (.sipush 400, 3) := by decide +kernel
theorem dX5_note_7 : decode cX5_note 7 = .ok (.if_icmp .ge 50, 3) := by decide +kernel
theorem dX5_note_10 : decode cX5_note 10 = .ok (.aload_n 0, 1) := by decide +kernel
theorem dX5_note_11 : decode cX5_note 11 = .ok (.getfield 50, 3) := by decide +kernel
theorem dX5_note_14 : decode cX5_note 14 = .ok (.iconst 4, 1) := by decide +kernel
theorem dX5_note_15 : decode cX5_note 15 = .ok (.imul, 1) := by decide +kernel
theorem dX5_note_16 : decode cX5_note 16 = .ok (.istore 5, 2) := by decide +kernel
theorem dX5_note_18 : decode cX5_note 18 = .ok (.aload_n 0, 1) := by decide +kernel
theorem dX5_note_19 : decode cX5_note 19 = .ok (.getfield 15, 3) := by decide +kernel
theorem dX5_note_22 : decode cX5_note 22 = .ok (.iload 5, 2) := by decide +kernel
theorem dX5_note_24 : decode cX5_note 24 = .ok (.iload_n 1, 1) := by decide +kernel
theorem dX5_note_25 : decode cX5_note 25 = .ok (.iastore, 1) := by decide +kernel
theorem dX5_note_26 : decode cX5_note 26 = .ok (.aload_n 0, 1) := by decide +kernel
theorem dX5_note_27 : decode cX5_note 27 = .ok (.getfield 15, 3) := by decide +kernel
theorem dX5_note_30 : decode cX5_note 30 = .ok (.iload 5, 2) := by decide +kernel
theorem dX5_note_32 : decode cX5_note 32 = .ok (.iconst 1, 1) := by decide +kernel
theorem dX5_note_33 : decode cX5_note 33 = .ok (.iadd, 1) := by decide +kernel
theorem dX5_note_34 : decode cX5_note 34 = .ok (.iload_n 2, 1) := by decide +kernel
theorem dX5_note_35 : decode cX5_note 35 = .ok (.iastore, 1) := by decide +kernel
theorem dX5_note_36 : decode cX5_note 36 = .ok (.aload_n 0, 1) := by decide +kernel
theorem dX5_note_37 : decode cX5_note 37 = .ok (.getfield 15, 3) := by decide +kernel
theorem dX5_note_40 : decode cX5_note 40 = .ok (.iload 5, 2) := by decide +kernel
theorem dX5_note_42 : decode cX5_note 42 = .ok (.iconst 2, 1) := by decide +kernel
theorem dX5_note_43 : decode cX5_note 43 = .ok (.iadd, 1) := by decide +kernel
theorem dX5_note_44 : decode cX5_note 44 = .ok (.iload_n 3, 1) := by decide +kernel
theorem dX5_note_45 : decode cX5_note 45 = .ok (.iastore, 1) := by decide +kernel
theorem dX5_note_46 : decode cX5_note 46 = .ok (.aload_n 0, 1) := by decide +kernel
theorem dX5_note_47 : decode cX5_note 47 = .ok (.getfield 15, 3) := by decide +kernel
theorem dX5_note_50 : decode cX5_note 50 = .ok (.iload 5, 2) := by decide +kernel
theorem dX5_note_52 : decode cX5_note 52 = .ok (.iconst 3, 1) := by decide +kernel
theorem dX5_note_53 : decode cX5_note 53 = .ok (.iadd, 1) := by decide +kernel
theorem dX5_note_54 : decode cX5_note 54 = .ok (.iload 4, 2) := by decide +kernel
theorem dX5_note_56 : decode cX5_note 56 = .ok (.iastore, 1) := by decide +kernel
theorem dX5_note_57 : decode cX5_note 57 = .ok (.aload_n 0, 1) := by decide +kernel
theorem dX5_note_58 : decode cX5_note 58 = .ok (.dup, 1) := by decide +kernel
theorem dX5_note_59 : decode cX5_note 59 = .ok (.getfield 50, 3) := by decide +kernel
theorem dX5_note_62 : decode cX5_note 62 = .ok (.iconst 1, 1) := by decide +kernel
theorem dX5_note_63 : decode cX5_note 63 = .ok (.iadd, 1) := by decide +kernel
theorem dX5_note_64 : decode cX5_note 64 = .ok (.putfield 50, 3) := by decide +kernel
theorem dX5_note_67 : decode cX5_note 67 = .ok (.return_, 1) := by decide +kernel
theorem dX5_placeNow_0 : decode cX5_placeNow 0 = .ok (.aload_n 0, 1) := by decide +kernel
theorem dX5_placeNow_1 : decode cX5_placeNow 1 = .ok (.getfield 60, 3) := by decide +kernel
theorem dX5_placeNow_4 : decode cX5_placeNow 4 = .ok (.iconst 1, 1) := by decide +kernel
theorem dX5_placeNow_5 : decode cX5_placeNow 5 = .ok (.isub, 1) := by decide +kernel
theorem dX5_placeNow_6 : decode cX5_placeNow 6 = .ok (.bipush 8, 2) := by decide +kernel
theorem dX5_placeNow_8 : decode cX5_placeNow 8 = .ok (.imul, 1) := by decide +kernel
theorem dX5_placeNow_9 : decode cX5_placeNow 9 = .ok (.iload_n 1, 1) := by decide +kernel
theorem dX5_placeNow_10 : decode cX5_placeNow 10 = .ok (.iadd, 1) := by decide +kernel
theorem dX5_placeNow_11 : decode cX5_placeNow 11 = .ok (.istore_n 2, 1) := by decide +kernel
theorem dX5_placeNow_12 : decode cX5_placeNow 12 = .ok (.iload_n 2, 1) := by decide +kernel
theorem dX5_placeNow_13 : decode cX5_placeNow 13 = .ok (.ifCond .lt 21, 3) := by decide +kernel
theorem dX5_placeNow_16 : decode cX5_placeNow 16 = .ok (.iload_n 2, 1) := by decide +kernel
theorem dX5_placeNow_17 : decode cX5_placeNow 17 = .ok (.aload_n 0, 1) := by decide +kernel
theorem dX5_placeNow_18 : decode cX5_placeNow 18 = .ok (.getfield 18, 3) := by decide +kernel
theorem dX5_placeNow_21 : decode cX5_placeNow 21 = .ok (.arraylength, 1) := by decide +kernel
theorem dX5_placeNow_22 : decode cX5_placeNow 22 = .ok (.if_icmp .ge 12, 3) := by decide +kernel
theorem dX5_placeNow_25 : decode cX5_placeNow 25 = .ok (.aload_n 0, 1) := by decide +kernel
theorem dX5_placeNow_26 : decode cX5_placeNow 26 = .ok (.getfield 18, 3) := by decide +kernel
theorem dX5_placeNow_29 : decode cX5_placeNow 29 = .ok (.iload_n 2, 1) := by decide +kernel
theorem dX5_placeNow_30 : decode cX5_placeNow 30 = .ok (.iaload, 1) := by decide +kernel
theorem dX5_placeNow_31 : decode cX5_placeNow 31 = .ok (.goto 4, 3) := by decide +kernel
theorem dX5_placeNow_34 : decode cX5_placeNow 34 = .ok (.iconst 0, 1) := by decide +kernel
theorem dX5_placeNow_35 : decode cX5_placeNow 35 = .ok (.ireturn, 1) := by decide +kernel
theorem dX5_setPlace_0 : decode cX5_setPlace 0 = .ok (.aload_n 0, 1) := by decide +kernel
theorem dX5_setPlace_1 : decode cX5_setPlace 1 = .ok (.getfield 60, 3) := by decide +kernel
theorem dX5_setPlace_4 : decode cX5_setPlace 4 = .ok (.iconst 1, 1) := by decide +kernel
theorem dX5_setPlace_5 : decode cX5_setPlace 5 = .ok (.isub, 1) := by decide +kernel
theorem dX5_setPlace_6 : decode cX5_setPlace 6 = .ok (.bipush 8, 2) := by decide +kernel
theorem dX5_setPlace_8 : decode cX5_setPlace 8 = .ok (.imul, 1) := by decide +kernel
theorem dX5_setPlace_9 : decode cX5_setPlace 9 = .ok (.iload_n 1, 1) := by decide +kernel
theorem dX5_setPlace_10 : decode cX5_setPlace 10 = .ok (.iadd, 1) := by decide +kernel
theorem dX5_setPlace_11 : decode cX5_setPlace 11 = .ok (.istore_n 3, 1) := by decide +kernel
theorem dX5_setPlace_12 : decode cX5_setPlace 12 = .ok (.iload_n 3, 1) := by decide +kernel
theorem dX5_setPlace_13 : decode cX5_setPlace 13 = .ok (.ifCond .lt 19, 3) := by decide +kernel
theorem dX5_setPlace_16 : decode cX5_setPlace 16 = .ok (.iload_n 3, 1) := by decide +kernel
theorem dX5_setPlace_17 : decode cX5_setPlace 17 = .ok (.aload_n 0, 1) := by decide +kernel
theorem dX5_setPlace_18 : decode cX5_setPlace 18 = .ok (.getfield 18, 3) := by decide +kernel
theorem dX5_setPlace_21 : decode cX5_setPlace 21 = .ok (.arraylength, 1) := by decide +kernel
theorem dX5_setPlace_22 : decode cX5_setPlace 22 = .ok (.if_icmp .ge 10, 3) := by decide +kernel
theorem dX5_setPlace_25 : decode cX5_setPlace 25 = .ok (.aload_n 0, 1) := by decide +kernel
theorem dX5_setPlace_26 : decode cX5_setPlace 26 = .ok (.getfield 18, 3) := by decide +kernel
theorem dX5_setPlace_29 : decode cX5_setPlace 29 = .ok (.iload_n 3, 1) := by decide +kernel
theorem dX5_setPlace_30 : decode cX5_setPlace 30 = .ok (.iload_n 2, 1) := by decide +kernel
theorem dX5_setPlace_31 : decode cX5_setPlace 31 = .ok (.iastore, 1) := by decide +kernel
theorem dX5_setPlace_32 : decode cX5_setPlace 32 = .ok (.return_, 1) := by decide +kernel
theorem dX5_push_0 : decode cX5_push 0 = .ok (.aload_n 0, 1) := by decide +kernel
theorem dX5_push_1 : decode cX5_push 1 = .ok (.getfield 63, 3) := by decide +kernel
theorem dX5_push_4 : decode cX5_push 4 = .ok (.ifCond .lt 35, 3) := by decide +kernel
theorem dX5_push_7 : decode cX5_push 7 = .ok (.aload_n 0, 1) := by decide +kernel
theorem dX5_push_8 : decode cX5_push 8 = .ok (.getfield 63, 3) := by decide +kernel
theorem dX5_push_11 : decode cX5_push 11 = .ok (.aload_n 0, 1) := by decide +kernel
theorem dX5_push_12 : decode cX5_push 12 = .ok (.getfield 24, 3) := by decide +kernel
theorem dX5_push_15 : decode cX5_push 15 = .ok (.arraylength, 1) := by decide +kernel
theorem dX5_push_16 : decode cX5_push 16 = .ok (.if_icmp .ge 23, 3) := by decide +kernel
theorem dX5_push_19 : decode cX5_push 19 = .ok (.aload_n 0, 1) := by decide +kernel
theorem dX5_push_20 : decode cX5_push 20 = .ok (.getfield 24, 3) := by decide +kernel
theorem dX5_push_23 : decode cX5_push 23 = .ok (.aload_n 0, 1) := by decide +kernel
theorem dX5_push_24 : decode cX5_push 24 = .ok (.getfield 63, 3) := by decide +kernel
theorem dX5_push_27 : decode cX5_push 27 = .ok (.iload_n 1, 1) := by decide +kernel
theorem dX5_push_28 : decode cX5_push 28 = .ok (.iastore, 1) := by decide +kernel
theorem dX5_push_29 : decode cX5_push 29 = .ok (.aload_n 0, 1) := by decide +kernel
theorem dX5_push_30 : decode cX5_push 30 = .ok (.dup, 1) := by decide +kernel
theorem dX5_push_31 : decode cX5_push 31 = .ok (.getfield 63, 3) := by decide +kernel
theorem dX5_push_34 : decode cX5_push 34 = .ok (.iconst 1, 1) := by decide +kernel
theorem dX5_push_35 : decode cX5_push 35 = .ok (.iadd, 1) := by decide +kernel
theorem dX5_push_36 : decode cX5_push 36 = .ok (.putfield 63, 3) := by decide +kernel
theorem dX5_push_39 : decode cX5_push 39 = .ok (.return_, 1) := by decide +kernel
theorem dX5_pop_0 : decode cX5_pop 0 = .ok (.aload_n 0, 1) := by decide +kernel
theorem dX5_pop_1 : decode cX5_pop 1 = .ok (.getfield 63, 3) := by decide +kernel
theorem dX5_pop_4 : decode cX5_pop 4 = .ok (.ifCond .le 15, 3) := by decide +kernel
theorem dX5_pop_7 : decode cX5_pop 7 = .ok (.aload_n 0, 1) := by decide +kernel
theorem dX5_pop_8 : decode cX5_pop 8 = .ok (.getfield 63, 3) := by decide +kernel
theorem dX5_pop_11 : decode cX5_pop 11 = .ok (.aload_n 0, 1) := by decide +kernel
theorem dX5_pop_12 : decode cX5_pop 12 = .ok (.getfield 24, 3) := by decide +kernel
theorem dX5_pop_15 : decode cX5_pop 15 = .ok (.arraylength, 1) := by decide +kernel
theorem dX5_pop_16 : decode cX5_pop 16 = .ok (.if_icmp .le 5, 3) := by decide +kernel
theorem dX5_pop_19 : decode cX5_pop 19 = .ok (.iconst 0, 1) := by decide +kernel
theorem dX5_pop_20 : decode cX5_pop 20 = .ok (.ireturn, 1) := by decide +kernel
theorem dX5_pop_21 : decode cX5_pop 21 = .ok (.aload_n 0, 1) := by decide +kernel
theorem dX5_pop_22 : decode cX5_pop 22 = .ok (.dup, 1) := by decide +kernel
theorem dX5_pop_23 : decode cX5_pop 23 = .ok (.getfield 63, 3) := by decide +kernel
theorem dX5_pop_26 : decode cX5_pop 26 = .ok (.iconst 1, 1) := by decide +kernel
theorem dX5_pop_27 : decode cX5_pop 27 = .ok (.isub, 1) := by decide +kernel
theorem dX5_pop_28 : decode cX5_pop 28 = .ok (.putfield 63, 3) := by decide +kernel
theorem dX5_pop_31 : decode cX5_pop 31 = .ok (.aload_n 0, 1) := by decide +kernel
theorem dX5_pop_32 : decode cX5_pop 32 = .ok (.getfield 24, 3) := by decide +kernel
theorem dX5_pop_35 : decode cX5_pop 35 = .ok (.aload_n 0, 1) := by decide +kernel
theorem dX5_pop_36 : decode cX5_pop 36 = .ok (.getfield 63, 3) := by decide +kernel
theorem dX5_pop_39 : decode cX5_pop 39 = .ok (.iaload, 1) := by decide +kernel
theorem dX5_pop_40 : decode cX5_pop 40 = .ok (.ireturn, 1) := by decide +kernel
theorem dX6_init_0 : decode cX6_init 0 = .ok (.aload_n 0, 1) := by decide +kernel
theorem dX6_init_1 : decode cX6_init 1 = .ok (.invokespecial 3, 3) := by decide +kernel
theorem dX6_init_4 : decode cX6_init 4 = .ok (.aload_n 0, 1) := by decide +kernel
theorem dX6_init_5 : decode cX6_init 5 = .ok (.new 9, 3) := by decide +kernel
theorem dX6_init_8 : decode cX6_init 8 = .ok (.dup, 1) := by decide +kernel
theorem dX6_init_9 : decode cX6_init 9 = .ok (.invokespecial 11, 3) := by decide +kernel
theorem dX6_init_12 : decode cX6_init 12 = .ok (.putfield 12, 3) := by decide +kernel
theorem dX6_init_15 : decode cX6_init 15 = .ok (.aload_n 0, 1) := by decide +kernel
theorem dX6_init_16 : decode cX6_init 16 = .ok (.new 18, 3) := by decide +kernel
theorem dX6_init_19 : decode cX6_init 19 = .ok (.dup, 1) := by decide +kernel
theorem dX6_init_20 : decode cX6_init 20 = .ok (.invokespecial 20, 3) := by decide +kernel
theorem dX6_init_23 : decode cX6_init 23 = .ok (.putfield 21, 3) := by decide +kernel
theorem dX6_init_26 : decode cX6_init 26 = .ok (.aload_n 0, 1) := by decide +kernel
theorem dX6_init_27 : decode cX6_init 27 = .ok (.bipush 10, 2) := by decide +kernel
theorem dX6_init_29 : decode cX6_init 29 = .ok (.anewarray 25, 3) := by decide +kernel
theorem dX6_init_32 : decode cX6_init 32 = .ok (.putfield 27, 3) := by decide +kernel
theorem dX6_init_35 : decode cX6_init 35 = .ok (.iconst 0, 1) := by decide +kernel
theorem dX6_init_36 : decode cX6_init 36 = .ok (.istore_n 1, 1) := by decide +kernel
theorem dX6_init_37 : decode cX6_init 37 = .ok (.iload_n 1, 1) := by decide +kernel
theorem dX6_init_38 : decode cX6_init 38 = .ok (.bipush 10, 2) := by decide +kernel
theorem dX6_init_40 : decode cX6_init 40 = .ok (.if_icmp .ge 22, 3) := by decide +kernel
theorem dX6_init_43 : decode cX6_init 43 = .ok (.aload_n 0, 1) := by decide +kernel
theorem dX6_init_44 : decode cX6_init 44 = .ok (.getfield 27, 3) := by decide +kernel
theorem dX6_init_47 : decode cX6_init 47 = .ok (.iload_n 1, 1) := by decide +kernel
theorem dX6_init_48 : decode cX6_init 48 = .ok (.new 25, 3) := by decide +kernel
theorem dX6_init_51 : decode cX6_init 51 = .ok (.dup, 1) := by decide +kernel
theorem dX6_init_52 : decode cX6_init 52 = .ok (.invokespecial 31, 3) := by decide +kernel
theorem dX6_init_55 : decode cX6_init 55 = .ok (.aastore, 1) := by decide +kernel
theorem dX6_init_56 : decode cX6_init 56 = .ok (.iinc 1 1, 3) := by decide +kernel
theorem dX6_init_59 : decode cX6_init 59 = .ok (.goto (-22), 3) := by decide +kernel
theorem dX6_init_62 : decode cX6_init 62 = .ok (.aload_n 0, 1) := by decide +kernel
theorem dX6_init_63 : decode cX6_init 63 = .ok (.bipush 60, 2) := by decide +kernel
theorem dX6_init_65 : decode cX6_init 65 = .ok (.anewarray 32, 3) := by decide +kernel
theorem dX6_init_68 : decode cX6_init 68 = .ok (.putfield 34, 3) := by decide +kernel
theorem dX6_init_71 : decode cX6_init 71 = .ok (.iconst 0, 1) := by decide +kernel
theorem dX6_init_72 : decode cX6_init 72 = .ok (.istore_n 1, 1) := by decide +kernel
theorem dX6_init_73 : decode cX6_init 73 = .ok (.iload_n 1, 1) := by decide +kernel
theorem dX6_init_74 : decode cX6_init 74 = .ok (.bipush 60, 2) := by decide +kernel
theorem dX6_init_76 : decode cX6_init 76 = .ok (.if_icmp .ge 22, 3) := by decide +kernel
theorem dX6_init_79 : decode cX6_init 79 = .ok (.aload_n 0, 1) := by decide +kernel
theorem dX6_init_80 : decode cX6_init 80 = .ok (.getfield 34, 3) := by decide +kernel
theorem dX6_init_83 : decode cX6_init 83 = .ok (.iload_n 1, 1) := by decide +kernel
theorem dX6_init_84 : decode cX6_init 84 = .ok (.new 32, 3) := by decide +kernel
theorem dX6_init_87 : decode cX6_init 87 = .ok (.dup, 1) := by decide +kernel
theorem dX6_init_88 : decode cX6_init 88 = .ok (.invokespecial 38, 3) := by decide +kernel
theorem dX6_init_91 : decode cX6_init 91 = .ok (.aastore, 1) := by decide +kernel
theorem dX6_init_92 : decode cX6_init 92 = .ok (.iinc 1 1, 3) := by decide +kernel
theorem dX6_init_95 : decode cX6_init 95 = .ok (.goto (-22), 3) := by decide +kernel
theorem dX6_init_98 : decode cX6_init 98 = .ok (.return_, 1) := by decide +kernel
theorem dX6_clear_0 : decode cX6_clear 0 = .ok (.aload_n 0, 1) := by decide +kernel
theorem dX6_clear_1 : decode cX6_clear 1 = .ok (.iconst 0, 1) := by decide +kernel
theorem dX6_clear_2 : decode cX6_clear 2 = .ok (.putfield 39, 3) := by decide +kernel
theorem dX6_clear_5 : decode cX6_clear 5 = .ok (.aload_n 0, 1) := by decide +kernel
theorem dX6_clear_6 : decode cX6_clear 6 = .ok (.iconst 0, 1) := by decide +kernel
theorem dX6_clear_7 : decode cX6_clear 7 = .ok (.putfield 43, 3) := by decide +kernel
theorem dX6_clear_10 : decode cX6_clear 10 = .ok (.aload_n 0, 1) := by decide +kernel
theorem dX6_clear_11 : decode cX6_clear 11 = .ok (.getfield 21, 3) := by decide +kernel
theorem dX6_clear_14 : decode cX6_clear 14 = .ok (.invokevirtual 46, 3) := by decide +kernel
theorem dX6_clear_17 : decode cX6_clear 17 = .ok (.return_, 1) := by decide +kernel
theorem dX6_hasFunction_0 : decode cX6_hasFunction 0 = .ok (.iload_n 1, 1) := by decide +kernel
theorem dX6_hasFunction_1 : decode cX6_hasFunction 1 = .ok (.ifCond .lt 24, 3) := by decide +kernel
theorem dX6_hasFunction_4 : decode cX6_hasFunction 4 = .ok (.iload_n 1, 1) := by decide +kernel
theorem dX6_hasFunction_5 : decode cX6_hasFunction 5 = .ok (.aload_n 0, 1) := by decide +kernel
theorem dX6_hasFunction_6 : decode cX6_hasFunction 6 = .ok (.getfield 39, 3) := by decide +kernel
theorem dX6_hasFunction_9 : decode cX6_hasFunction 9 = .ok (.if_icmp .ge 16, 3) := by decide +kernel
theorem dX6_hasFunction_12 : decode cX6_hasFunction 12 = .ok (.iload_n 1, 1) := by decide +kernel
theorem dX6_hasFunction_13 : decode cX6_hasFunction 13 = .ok (.aload_n 0, 1) := by decide +kernel
theorem dX6_hasFunction_14 : decode cX6_hasFunction 14 = .ok (.getfield 27, 3) := by decide +kernel
theorem dX6_hasFunction_17 : decode cX6_hasFunction 17 = .ok (.arraylength, 1) := by decide +kernel
theorem dX6_hasFunction_18 : decode cX6_hasFunction 18 = .ok (.if_icmp .ge 7, 3) := by decide +kernel
theorem dX6_hasFunction_21 : decode cX6_hasFunction 21 = .ok (.iconst 1, 1) := by decide +kernel
theorem dX6_hasFunction_22 : decode cX6_hasFunction 22 = .ok (.goto 4, 3) := by decide +kernel
theorem dX6_hasFunction_25 : decode cX6_hasFunction 25 = .ok (.iconst 0, 1) := by decide +kernel
theorem dX6_hasFunction_26 : decode cX6_hasFunction 26 = .ok (.ireturn, 1) := by decide +kernel
theorem dX6_hasLine_0 : decode cX6_hasLine 0 = .ok (.iload_n 1, 1) := by decide +kernel
theorem dX6_hasLine_1 : decode cX6_hasLine 1 = .ok (.ifCond .lt 24, 3) := by decide +kernel
theorem dX6_hasLine_4 : decode cX6_hasLine 4 = .ok (.iload_n 1, 1) := by decide +kernel
theorem dX6_hasLine_5 : decode cX6_hasLine 5 = .ok (.aload_n 0, 1) := by decide +kernel
theorem dX6_hasLine_6 : decode cX6_hasLine 6 = .ok (.getfield 43, 3) := by decide +kernel
theorem dX6_hasLine_9 : decode cX6_hasLine 9 = .ok (.if_icmp .ge 16, 3) := by decide +kernel
theorem dX6_hasLine_12 : decode cX6_hasLine 12 = .ok (.iload_n 1, 1) := by decide +kernel
theorem dX6_hasLine_13 : decode cX6_hasLine 13 = .ok (.aload_n 0, 1) := by decide +kernel
theorem dX6_hasLine_14 : decode cX6_hasLine 14 = .ok (.getfield 34, 3) := by decide +kernel
theorem dX6_hasLine_17 : decode cX6_hasLine 17 = .ok (.arraylength, 1) := by decide +kernel
theorem dX6_hasLine_18 : decode cX6_hasLine 18 = .ok (.if_icmp .ge 7, 3) := by decide +kernel
theorem dX6_hasLine_21 : decode cX6_hasLine 21 = .ok (.iconst 1, 1) := by decide +kernel
theorem dX6_hasLine_22 : decode cX6_hasLine 22 = .ok (.goto 4, 3) := by decide +kernel
theorem dX6_hasLine_25 : decode cX6_hasLine 25 = .ok (.iconst 0, 1) := by decide +kernel
theorem dX6_hasLine_26 : decode cX6_hasLine 26 = .ok (.ireturn, 1) := by decide +kernel
theorem dX6_addLine_0 : decode cX6_addLine 0 = .ok (.aload_n 0, 1) := by decide +kernel
theorem dX6_addLine_1 : decode cX6_addLine 1 = .ok (.getfield 43, 3) := by decide +kernel
theorem dX6_addLine_4 : decode cX6_addLine 4 = .ok (.aload_n 0, 1) := by decide +kernel
theorem dX6_addLine_5 : decode cX6_addLine 5 = .ok (.getfield 34, 3) := by decide +kernel
theorem dX6_addLine_8 : decode cX6_addLine 8 = .ok (.arraylength, 1) := by decide +kernel
theorem dX6_addLine_9 : decode cX6_addLine 9 = .ok (.if_icmp .lt 5, 3) := by decide +kernel
theorem dX6_addLine_12 : decode cX6_addLine 12 = .ok (.iconst (-1), 1) := by decide +kernel
theorem dX6_addLine_13 : decode cX6_addLine 13 = .ok (.ireturn, 1) := by decide +kernel
theorem dX6_addLine_14 : decode cX6_addLine 14 = .ok (.aload_n 0, 1) := by decide +kernel
theorem dX6_addLine_15 : decode cX6_addLine 15 = .ok (.getfield 34, 3) := by decide +kernel
theorem dX6_addLine_18 : decode cX6_addLine 18 = .ok (.aload_n 0, 1) := by decide +kernel
theorem dX6_addLine_19 : decode cX6_addLine 19 = .ok (.getfield 43, 3) := by decide +kernel
theorem dX6_addLine_22 : decode cX6_addLine 22 = .ok (.aaload, 1) := by decide +kernel
theorem dX6_addLine_23 : decode cX6_addLine 23 = .ok (.astore 4, 2) := by decide +kernel
theorem dX6_addLine_25 : decode cX6_addLine 25 = .ok (.aload 4, 2) := by decide +kernel
theorem dX6_addLine_27 : decode cX6_addLine 27 = .ok (.iload_n 1, 1) := by decide +kernel
theorem dX6_addLine_28 : decode cX6_addLine 28 = .ok (.putfield 49, 3) := by decide +kernel
theorem dX6_addLine_31 : decode cX6_addLine 31 = .ok (.aload 4, 2) := by decide +kernel
theorem dX6_addLine_33 : decode cX6_addLine 33 = .ok (.aload_n 0, 1) := by decide +kernel
theorem dX6_addLine_34 : decode cX6_addLine 34 = .ok (.getfield 39, 3) := by decide +kernel
theorem dX6_addLine_37 : decode cX6_addLine 37 = .ok (.putfield 52, 3) := by decide +kernel
theorem dX6_addLine_40 : decode cX6_addLine 40 = .ok (.aload 4, 2) := by decide +kernel
theorem dX6_addLine_42 : decode cX6_addLine 42 = .ok (.iload_n 2, 1) := by decide +kernel
theorem dX6_addLine_43 : decode cX6_addLine 43 = .ok (.putfield 55, 3) := by decide +kernel
theorem dX6_addLine_46 : decode cX6_addLine 46 = .ok (.aload 4, 2) := by decide +kernel
theorem dX6_addLine_48 : decode cX6_addLine 48 = .ok (.iload_n 3, 1) := by decide +kernel
theorem dX6_addLine_49 : decode cX6_addLine 49 = .ok (.putfield 58, 3) := by decide +kernel
theorem dX6_addLine_52 : decode cX6_addLine 52 = .ok (.aload_n 0, 1) := by decide +kernel
theorem dX6_addLine_53 : decode cX6_addLine 53 = .ok (.dup, 1) := by decide +kernel
theorem dX6_addLine_54 : decode cX6_addLine 54 = .ok (.getfield 43, 3) := by decide +kernel
theorem dX6_addLine_57 : decode cX6_addLine 57 = .ok (.iconst 1, 1) := by decide +kernel
theorem dX6_addLine_58 : decode cX6_addLine 58 = .ok (.iadd, 1) := by decide +kernel
theorem dX6_addLine_59 : decode cX6_addLine 59 = .ok (.putfield 43, 3) := by decide +kernel
theorem dX6_addLine_62 : decode cX6_addLine 62 = .ok (.aload_n 0, 1) := by decide +kernel
theorem dX6_addLine_63 : decode cX6_addLine 63 = .ok (.getfield 43, 3) := by decide +kernel
theorem dX6_addLine_66 : decode cX6_addLine 66 = .ok (.iconst 1, 1) := by decide +kernel
theorem dX6_addLine_67 : decode cX6_addLine 67 = .ok (.isub, 1) := by decide +kernel
theorem dX6_addLine_68 : decode cX6_addLine 68 = .ok (.ireturn, 1) := by decide +kernel
theorem dX6_functionNamed_0 : decode cX6_functionNamed 0 = .ok (.iconst 0, 1) := by decide +kernel
theorem dX6_functionNamed_1 : decode cX6_functionNamed 1 = .ok (.istore_n 3, 1) := by decide +kernel
theorem dX6_functionNamed_2 : decode cX6_functionNamed 2 = .ok (.iload_n 3, 1) := by decide +kernel
theorem dX6_functionNamed_3 : decode cX6_functionNamed 3 = .ok (.aload_n 0, 1) := by decide +kernel
theorem dX6_functionNamed_4 : decode cX6_functionNamed 4 = .ok (.getfield 39, 3) := by decide +kernel
theorem dX6_functionNamed_7 : decode cX6_functionNamed 7 = .ok (.if_icmp .ge 41, 3) := by decide +kernel
theorem dX6_functionNamed_10 : decode cX6_functionNamed 10 = .ok (.iload_n 3, 1) := by decide +kernel
theorem dX6_functionNamed_11 : decode cX6_functionNamed 11 = .ok (.aload_n 0, 1) := by decide +kernel
theorem dX6_functionNamed_12 : decode cX6_functionNamed 12 = .ok (.getfield 27, 3) := by decide +kernel
theorem dX6_functionNamed_15 : decode cX6_functionNamed 15 = .ok (.arraylength, 1) := by decide +kernel
theorem dX6_functionNamed_16 : decode cX6_functionNamed 16 = .ok (.if_icmp .ge 32, 3) := by decide +kernel
theorem dX6_functionNamed_19 : decode cX6_functionNamed 19 = .ok (.aload_n 0, 1) := by decide +kernel
theorem dX6_functionNamed_20 : decode cX6_functionNamed 20 = .ok (.getfield 12, 3) := by decide +kernel
theorem dX6_functionNamed_23 : decode cX6_functionNamed 23 = .ok (.aload_n 0, 1) := by decide +kernel
theorem dX6_functionNamed_24 : decode cX6_functionNamed 24 = .ok (.getfield 27, 3) := by decide +kernel
theorem dX6_functionNamed_27 : decode cX6_functionNamed 27 = .ok (.iload_n 3, 1) := by decide +kernel
theorem dX6_functionNamed_28 : decode cX6_functionNamed 28 = .ok (.aaload, 1) := by decide +kernel
theorem dX6_functionNamed_29 : decode cX6_functionNamed 29 = .ok (.getfield 61, 3) := by decide +kernel
theorem dX6_functionNamed_32 : decode cX6_functionNamed 32 = .ok (.aload_n 1, 1) := by decide +kernel
theorem dX6_functionNamed_33 : decode cX6_functionNamed 33 = .ok (.iload_n 2, 1) := by decide +kernel
theorem dX6_functionNamed_34 : decode cX6_functionNamed 34 = .ok (.invokevirtual 64, 3) := by decide +kernel
theorem dX6_functionNamed_37 : decode cX6_functionNamed 37 = .ok (.ifCond .eq 5, 3) := by decide +kernel
theorem dX6_functionNamed_40 : decode cX6_functionNamed 40 = .ok (.iload_n 3, 1) := by decide +kernel
theorem dX6_functionNamed_41 : decode cX6_functionNamed 41 = .ok (.ireturn, 1) := by decide +kernel
theorem dX6_functionNamed_42 : decode cX6_functionNamed 42 = .ok (.iinc 3 1, 3) := by decide +kernel
theorem dX6_functionNamed_45 : decode cX6_functionNamed 45 = .ok (.goto (-43), 3) := by decide +kernel
theorem dX6_functionNamed_48 : decode cX6_functionNamed 48 = .ok (.iconst (-1), 1) := by decide +kernel
theorem dX6_functionNamed_49 : decode cX6_functionNamed 49 = .ok (.ireturn, 1) := by decide +kernel
theorem dX7_init_0 : decode cX7_init 0 = .ok (.aload_n 0, 1) := by decide +kernel
theorem dX7_init_1 : decode cX7_init 1 = .ok (.invokespecial 3, 3) := by decide +kernel
theorem dX7_init_4 : decode cX7_init 4 = .ok (.aload_n 0, 1) := by decide +kernel
theorem dX7_init_5 : decode cX7_init 5 = .ok (.sipush 150, 3) := by decide +kernel
theorem dX7_init_8 : decode cX7_init 8 = .ok (.newarray .int, 2) := by decide +kernel
theorem dX7_init_10 : decode cX7_init 10 = .ok (.putfield 11, 3) := by decide +kernel
theorem dX7_init_13 : decode cX7_init 13 = .ok (.aload_n 0, 1) := by decide +kernel
theorem dX7_init_14 : decode cX7_init 14 = .ok (.sipush 150, 3) := by decide +kernel
theorem dX7_init_17 : decode cX7_init 17 = .ok (.newarray .int, 2) := by decide +kernel
theorem dX7_init_19 : decode cX7_init 19 = .ok (.putfield 15, 3) := by decide +kernel
theorem dX7_init_22 : decode cX7_init 22 = .ok (.aload_n 0, 1) := by decide +kernel
theorem dX7_init_23 : decode cX7_init 23 = .ok (.sipush 150, 3) := by decide +kernel
theorem dX7_init_26 : decode cX7_init 26 = .ok (.newarray .int, 2) := by decide +kernel
theorem dX7_init_28 : decode cX7_init 28 = .ok (.putfield 18, 3) := by decide +kernel
theorem dX7_init_31 : decode cX7_init 31 = .ok (.aload_n 0, 1) := by decide +kernel
theorem dX7_init_32 : decode cX7_init 32 = .ok (.sipush 150, 3) := by decide +kernel
theorem dX7_init_35 : decode cX7_init 35 = .ok (.newarray .int, 2) := by decide +kernel
theorem dX7_init_37 : decode cX7_init 37 = .ok (.putfield 21, 3) := by decide +kernel
theorem dX7_init_40 : decode cX7_init 40 = .ok (.return_, 1) := by decide +kernel
theorem dX7_read_0 : decode cX7_read 0 = .ok (.aload_n 0, 1) := by decide +kernel
theorem dX7_read_1 : decode cX7_read 1 = .ok (.aload_n 3, 1) := by decide +kernel
theorem dX7_read_2 : decode cX7_read 2 = .ok (.putfield 24, 3) := by decide +kernel
theorem dX7_read_5 : decode cX7_read 5 = .ok (.aload_n 0, 1) := by decide +kernel
theorem dX7_read_6 : decode cX7_read 6 = .ok (.aload_n 3, 1) := by decide +kernel
theorem dX7_read_7 : decode cX7_read 7 = .ok (.getfield 28, 3) := by decide +kernel
theorem dX7_read_10 : decode cX7_read 10 = .ok (.putfield 34, 3) := by decide +kernel
theorem dX7_read_13 : decode cX7_read 13 = .ok (.aload_n 0, 1) := by decide +kernel
theorem dX7_read_14 : decode cX7_read 14 = .ok (.aload_n 3, 1) := by decide +kernel
theorem dX7_read_15 : decode cX7_read 15 = .ok (.getfield 35, 3) := by decide +kernel
theorem dX7_read_18 : decode cX7_read 18 = .ok (.putfield 39, 3) := by decide +kernel
theorem dX7_read_21 : decode cX7_read 21 = .ok (.aload_n 0, 1) := by decide +kernel
theorem dX7_read_22 : decode cX7_read 22 = .ok (.getfield 24, 3) := by decide +kernel
theorem dX7_read_25 : decode cX7_read 25 = .ok (.invokevirtual 40, 3) := by decide +kernel
theorem dX7_read_28 : decode cX7_read 28 = .ok (.aload_n 0, 1) := by decide +kernel
theorem dX7_read_29 : decode cX7_read 29 = .ok (.getfield 34, 3) := by decide +kernel
theorem dX7_read_32 : decode cX7_read 32 = .ok (.aload_n 1, 1) := by decide +kernel
theorem dX7_read_33 : decode cX7_read 33 = .ok (.iload_n 2, 1) := by decide +kernel
theorem dX7_read_34 : decode cX7_read 34 = .ok (.invokevirtual 43, 3) := by decide +kernel
theorem dX7_read_37 : decode cX7_read 37 = .ok (.aload_n 0, 1) := by decide +kernel
theorem dX7_read_38 : decode cX7_read 38 = .ok (.iconst 0, 1) := by decide +kernel
theorem dX7_read_39 : decode cX7_read 39 = .ok (.putfield 49, 3) := by decide +kernel
theorem dX7_read_42 : decode cX7_read 42 = .ok (.aload_n 0, 1) := by decide +kernel
theorem dX7_read_43 : decode cX7_read 43 = .ok (.iconst 0, 1) := by decide +kernel
theorem dX7_read_44 : decode cX7_read 44 = .ok (.putfield 53, 3) := by decide +kernel
theorem dX7_read_47 : decode cX7_read 47 = .ok (.aload_n 0, 1) := by decide +kernel
theorem dX7_read_48 : decode cX7_read 48 = .ok (.iconst 0, 1) := by decide +kernel
theorem dX7_read_49 : decode cX7_read 49 = .ok (.putfield 56, 3) := by decide +kernel
theorem dX7_read_52 : decode cX7_read 52 = .ok (.aload_n 0, 1) := by decide +kernel
theorem dX7_read_53 : decode cX7_read 53 = .ok (.iconst 0, 1) := by decide +kernel
theorem dX7_read_54 : decode cX7_read 54 = .ok (.putfield 59, 3) := by decide +kernel
theorem dX7_read_57 : decode cX7_read 57 = .ok (.aload_n 0, 1) := by decide +kernel
theorem dX7_read_58 : decode cX7_read 58 = .ok (.invokevirtual 62, 3) := by decide +kernel
theorem dX7_read_61 : decode cX7_read 61 = .ok (.iconst 0, 1) := by decide +kernel
theorem dX7_read_62 : decode cX7_read 62 = .ok (.istore 4, 2) := by decide +kernel
theorem dX7_read_64 : decode cX7_read 64 = .ok (.iload 4, 2) := by decide +kernel
theorem dX7_read_66 : decode cX7_read 66 = .ok (.bipush 10, 2) := by decide +kernel
theorem dX7_read_68 : decode cX7_read 68 = .ok (.if_icmp .ge 20, 3) := by decide +kernel
theorem dX7_read_71 : decode cX7_read 71 = .ok (.aload_n 0, 1) := by decide +kernel
theorem dX7_read_72 : decode cX7_read 72 = .ok (.invokevirtual 65, 3) := by decide +kernel
theorem dX7_read_75 : decode cX7_read 75 = .ok (.ifCond .eq 13, 3) := by decide +kernel
theorem dX7_read_78 : decode cX7_read 78 = .ok (.aload_n 0, 1) := by decide +kernel
theorem dX7_read_79 : decode cX7_read 79 = .ok (.invokevirtual 62, 3) := by decide +kernel
theorem dX7_read_82 : decode cX7_read 82 = .ok (.iinc 4 1, 3) := by decide +kernel
theorem dX7_read_85 : decode cX7_read 85 = .ok (.goto (-21), 3) := by decide +kernel
theorem dX7_read_88 : decode cX7_read 88 = .ok (.aload_n 0, 1) := by decide +kernel
theorem dX7_read_89 : decode cX7_read 89 = .ok (.getfield 56, 3) := by decide +kernel
theorem dX7_read_92 : decode cX7_read 92 = .ok (.ifCond .ne 7, 3) := by decide +kernel
theorem dX7_read_95 : decode cX7_read 95 = .ok (.aload_n 0, 1) := by decide +kernel
theorem dX7_read_96 : decode cX7_read 96 = .ok (.invokevirtual 69, 3) := by decide +kernel
theorem dX7_read_99 : decode cX7_read 99 = .ok (.aload_n 0, 1) := by decide +kernel
theorem dX7_read_100 : decode cX7_read 100 = .ok (.aload_n 0, 1) := by decide +kernel
theorem dX7_read_101 : decode cX7_read 101 = .ok (.getfield 34, 3) := by decide +kernel
theorem dX7_read_104 : decode cX7_read 104 = .ok (.aload_n 0, 1) := by decide +kernel
theorem dX7_read_105 : decode cX7_read 105 = .ok (.getfield 59, 3) := by decide +kernel
theorem dX7_read_108 : decode cX7_read 108 = .ok (.invokevirtual 72, 3) := by decide +kernel
theorem dX7_read_111 : decode cX7_read 111 = .ok (.putfield 76, 3) := by decide +kernel
theorem dX7_read_114 : decode cX7_read 114 = .ok (.aload_n 0, 1) := by decide +kernel
theorem dX7_read_115 : decode cX7_read 115 = .ok (.getfield 56, 3) := by decide +kernel
theorem dX7_read_118 : decode cX7_read 118 = .ok (.ireturn, 1) := by decide +kernel
theorem dX7_readFunction_0 : decode cX7_readFunction 0 = .ok (.aload_n 0, 1) := by decide +kernel
theorem dX7_readFunction_1 : decode cX7_readFunction 1 = .ok (.invokevirtual 65, 3) := by decide +kernel
theorem dX7_readFunction_4 : decode cX7_readFunction 4 = .ok (.iconst 5, 1) := by decide +kernel
theorem dX7_readFunction_5 : decode cX7_readFunction 5 = .ok (.if_icmp .eq 9, 3) := by decide +kernel
theorem dX7_readFunction_8 : decode cX7_readFunction 8 = .ok (.aload_n 0, 1) := by decide +kernel
theorem dX7_readFunction_9 : decode cX7_readFunction 9 = .ok (.iconst 1, 1) := by decide +kernel
theorem dX7_readFunction_10 : decode cX7_readFunction 10 = .ok (.invokevirtual 79, 3) := by decide +kernel
theorem dX7_readFunction_13 : decode cX7_readFunction 13 = .ok (.return_, 1) := by decide +kernel
theorem dX7_readFunction_14 : decode cX7_readFunction 14 = .ok (.aload_n 0, 1) := by decide +kernel
theorem dX7_readFunction_15 : decode cX7_readFunction 15 = .ok (.getfield 24, 3) := by decide +kernel
theorem dX7_readFunction_18 : decode cX7_readFunction 18 = .ok (.getfield 83, 3) := by decide +kernel
theorem dX7_readFunction_21 : decode cX7_readFunction 21 = .ok (.istore_n 1, 1) := by decide +kernel
theorem dX7_readFunction_22 : decode cX7_readFunction 22 = .ok (.iload_n 1, 1) := by decide +kernel
theorem dX7_readFunction_23 : decode cX7_readFunction 23 = .ok (.bipush 10, 2) := by decide +kernel
theorem dX7_readFunction_25 : decode cX7_readFunction 25 = .ok (.if_icmp .lt 9, 3) := by decide +kernel
theorem dX7_readFunction_28 : decode cX7_readFunction 28 = .ok (.aload_n 0, 1) := by decide +kernel
theorem dX7_readFunction_29 : decode cX7_readFunction 29 = .ok (.iconst 3, 1) := by decide +kernel
theorem dX7_readFunction_30 : decode cX7_readFunction 30 = .ok (.invokevirtual 79, 3) := by decide +kernel
theorem dX7_readFunction_33 : decode cX7_readFunction 33 = .ok (.return_, 1) := by decide +kernel
theorem dX7_readFunction_34 : decode cX7_readFunction 34 = .ok (.aload_n 0, 1) := by decide +kernel
theorem dX7_readFunction_35 : decode cX7_readFunction 35 = .ok (.getfield 24, 3) := by decide +kernel
theorem dX7_readFunction_38 : decode cX7_readFunction 38 = .ok (.getfield 86, 3) := by decide +kernel
theorem dX7_readFunction_41 : decode cX7_readFunction 41 = .ok (.iload_n 1, 1) := by decide +kernel
theorem dX7_readFunction_42 : decode cX7_readFunction 42 = .ok (.aaload, 1) := by decide +kernel
theorem dX7_readFunction_43 : decode cX7_readFunction 43 = .ok (.astore_n 2, 1) := by decide +kernel
theorem dX7_readFunction_44 : decode cX7_readFunction 44 = .ok (.aload_n 2, 1) := by decide +kernel
theorem dX7_readFunction_45 : decode cX7_readFunction 45 = .ok (.aload_n 0, 1) := by decide +kernel
theorem dX7_readFunction_46 : decode cX7_readFunction 46 = .ok (.getfield 49, 3) := by decide +kernel
theorem dX7_readFunction_49 : decode cX7_readFunction 49 = .ok (.aload_n 0, 1) := by decide +kernel
theorem dX7_readFunction_50 : decode cX7_readFunction 50 = .ok (.getfield 24, 3) := by decide +kernel
theorem dX7_readFunction_53 : decode cX7_readFunction 53 = .ok (.getfield 90, 3) := by decide +kernel
theorem dX7_readFunction_56 : decode cX7_readFunction 56 = .ok (.aload_n 0, 1) := by decide +kernel
theorem dX7_readFunction_57 : decode cX7_readFunction 57 = .ok (.getfield 39, 3) := by decide +kernel
theorem dX7_readFunction_60 : decode cX7_readFunction 60 = .ok (.getfield 93, 3) := by decide +kernel
theorem dX7_readFunction_63 : decode cX7_readFunction 63 = .ok (.invokevirtual 98, 3) := by decide +kernel
theorem dX7_readFunction_66 : decode cX7_readFunction 66 = .ok (.aload_n 0, 1) := by decide +kernel
theorem dX7_readFunction_67 : decode cX7_readFunction 67 = .ok (.dup, 1) := by decide +kernel
theorem dX7_readFunction_68 : decode cX7_readFunction 68 = .ok (.getfield 49, 3) := by decide +kernel
theorem dX7_readFunction_71 : decode cX7_readFunction 71 = .ok (.iconst 1, 1) := by decide +kernel
theorem dX7_readFunction_72 : decode cX7_readFunction 72 = .ok (.iadd, 1) := by decide +kernel
theorem dX7_readFunction_73 : decode cX7_readFunction 73 = .ok (.putfield 49, 3) := by decide +kernel
theorem dX7_readFunction_76 : decode cX7_readFunction 76 = .ok (.aload_n 0, 1) := by decide +kernel
theorem dX7_readFunction_77 : decode cX7_readFunction 77 = .ok (.aload_n 2, 1) := by decide +kernel
theorem dX7_readFunction_78 : decode cX7_readFunction 78 = .ok (.invokevirtual 104, 3) := by decide +kernel
theorem dX7_readFunction_81 : decode cX7_readFunction 81 = .ok (.aload_n 0, 1) := by decide +kernel
theorem dX7_readFunction_82 : decode cX7_readFunction 82 = .ok (.bipush 40, 2) := by decide +kernel
theorem dX7_readFunction_84 : decode cX7_readFunction 84 = .ok (.invokevirtual 108, 3) := by decide +kernel
theorem dX7_readFunction_87 : decode cX7_readFunction 87 = .ok (.aload_n 0, 1) := by decide +kernel
theorem dX7_readFunction_88 : decode cX7_readFunction 88 = .ok (.aload_n 2, 1) := by decide +kernel
theorem dX7_readFunction_89 : decode cX7_readFunction 89 = .ok (.invokevirtual 111, 3) := by decide +kernel
theorem dX7_readFunction_92 : decode cX7_readFunction 92 = .ok (.aload_n 0, 1) := by decide +kernel
theorem dX7_readFunction_93 : decode cX7_readFunction 93 = .ok (.bipush 41, 2) := by decide +kernel
theorem dX7_readFunction_95 : decode cX7_readFunction 95 = .ok (.invokevirtual 108, 3) := by decide +kernel
theorem dX7_readFunction_98 : decode cX7_readFunction 98 = .ok (.aload_n 0, 1) := by decide +kernel
theorem dX7_readFunction_99 : decode cX7_readFunction 99 = .ok (.iconst 1, 1) := by decide +kernel
theorem dX7_readFunction_100 : decode cX7_readFunction 100 = .ok (.invokevirtual 114, 3) := by decide +kernel
theorem dX7_readFunction_103 : decode cX7_readFunction 103 = .ok (.aload_n 0, 1) := by decide +kernel
theorem dX7_readFunction_104 : decode cX7_readFunction 104 = .ok (.getfield 39, 3) := by decide +kernel
theorem dX7_readFunction_107 : decode cX7_readFunction 107 = .ok (.bipush 16, 2) := by decide +kernel
theorem dX7_readFunction_109 : decode cX7_readFunction 109 = .ok (.iconst 0, 1) := by decide +kernel
theorem dX7_readFunction_110 : decode cX7_readFunction 110 = .ok (.iconst 0, 1) := by decide +kernel
theorem dX7_readFunction_111 : decode cX7_readFunction 111 = .ok (.invokevirtual 117, 3) := by decide +kernel
theorem dX7_readFunction_114 : decode cX7_readFunction 114 = .ok (.pop, 1) := by decide +kernel
theorem dX7_readFunction_115 : decode cX7_readFunction 115 = .ok (.aload_n 2, 1) := by decide +kernel
theorem dX7_readFunction_116 : decode cX7_readFunction 116 = .ok (.aload_n 0, 1) := by decide +kernel
theorem dX7_readFunction_117 : decode cX7_readFunction 117 = .ok (.getfield 49, 3) := by decide +kernel
theorem dX7_readFunction_120 : decode cX7_readFunction 120 = .ok (.iconst 1, 1) := by decide +kernel
theorem dX7_readFunction_121 : decode cX7_readFunction 121 = .ok (.isub, 1) := by decide +kernel
theorem dX7_readFunction_122 : decode cX7_readFunction 122 = .ok (.putfield 121, 3) := by decide +kernel
theorem dX7_readFunction_125 : decode cX7_readFunction 125 = .ok (.aload_n 2, 1) := by decide +kernel
theorem dX7_readFunction_126 : decode cX7_readFunction 126 = .ok (.aload_n 0, 1) := by decide +kernel
theorem dX7_readFunction_127 : decode cX7_readFunction 127 = .ok (.getfield 24, 3) := by decide +kernel
theorem dX7_readFunction_130 : decode cX7_readFunction 130 = .ok (.getfield 90, 3) := by decide +kernel
theorem dX7_readFunction_133 : decode cX7_readFunction 133 = .ok (.aload_n 2, 1) := by decide +kernel
theorem dX7_readFunction_134 : decode cX7_readFunction 134 = .ok (.getfield 124, 3) := by decide +kernel
theorem dX7_readFunction_137 : decode cX7_readFunction 137 = .ok (.isub, 1) := by decide +kernel
theorem dX7_readFunction_138 : decode cX7_readFunction 138 = .ok (.putfield 127, 3) := by decide +kernel
theorem dX7_readFunction_141 : decode cX7_readFunction 141 = .ok (.aload_n 0, 1) := by decide +kernel
theorem dX7_readFunction_142 : decode cX7_readFunction 142 = .ok (.getfield 24, 3) := by decide +kernel
theorem dX7_readFunction_145 : decode cX7_readFunction 145 = .ok (.dup, 1) := by decide +kernel
theorem dX7_readFunction_146 : decode cX7_readFunction 146 = .ok (.getfield 83, 3) := by decide +kernel
theorem dX7_readFunction_149 : decode cX7_readFunction 149 = .ok (.iconst 1, 1) := by decide +kernel
theorem dX7_readFunction_150 : decode cX7_readFunction 150 = .ok (.iadd, 1) := by decide +kernel
theorem dX7_readFunction_151 : decode cX7_readFunction 151 = .ok (.putfield 83, 3) := by decide +kernel
theorem dX7_readFunction_154 : decode cX7_readFunction 154 = .ok (.return_, 1) := by decide +kernel
theorem dX7_readName_0 : decode cX7_readName 0 = .ok (.aload_n 0, 1) := by decide +kernel
theorem dX7_readName_1 : decode cX7_readName 1 = .ok (.invokevirtual 65, 3) := by decide +kernel
theorem dX7_readName_4 : decode cX7_readName 4 = .ok (.iconst 4, 1) := by decide +kernel
theorem dX7_readName_5 : decode cX7_readName 5 = .ok (.if_icmp .eq 11, 3) := by decide +kernel
theorem dX7_readName_8 : decode cX7_readName 8 = .ok (.aload_n 0, 1) := by decide +kernel
theorem dX7_readName_9 : decode cX7_readName 9 = .ok (.iconst 1, 1) := by decide +kernel
theorem dX7_readName_10 : decode cX7_readName 10 = .ok (.invokevirtual 79, 3) := by decide +kernel
theorem dX7_readName_13 : decode cX7_readName 13 = .ok (.goto 48, 3) := by decide +kernel
theorem dX7_readName_16 : decode cX7_readName 16 = .ok (.aload_n 0, 1) := by decide +kernel
theorem dX7_readName_17 : decode cX7_readName 17 = .ok (.getfield 24, 3) := by decide +kernel
theorem dX7_readName_20 : decode cX7_readName 20 = .ok (.aload_n 0, 1) := by decide +kernel
theorem dX7_readName_21 : decode cX7_readName 21 = .ok (.getfield 34, 3) := by decide +kernel
theorem dX7_readName_24 : decode cX7_readName 24 = .ok (.aload_n 0, 1) := by decide +kernel
theorem dX7_readName_25 : decode cX7_readName 25 = .ok (.getfield 49, 3) := by decide +kernel
theorem dX7_readName_28 : decode cX7_readName 28 = .ok (.invokevirtual 128, 3) := by decide +kernel
theorem dX7_readName_31 : decode cX7_readName 31 = .ok (.iconst (-1), 1) := by decide +kernel
theorem dX7_readName_32 : decode cX7_readName 32 = .ok (.if_icmp .eq 11, 3) := by decide +kernel
theorem dX7_readName_35 : decode cX7_readName 35 = .ok (.aload_n 0, 1) := by decide +kernel
theorem dX7_readName_36 : decode cX7_readName 36 = .ok (.iconst 2, 1) := by decide +kernel
theorem dX7_readName_37 : decode cX7_readName 37 = .ok (.invokevirtual 79, 3) := by decide +kernel
theorem dX7_readName_40 : decode cX7_readName 40 = .ok (.goto 21, 3) := by decide +kernel
theorem dX7_readName_43 : decode cX7_readName 43 = .ok (.aload_n 1, 1) := by decide +kernel
theorem dX7_readName_44 : decode cX7_readName 44 = .ok (.aload_n 0, 1) := by decide +kernel
theorem dX7_readName_45 : decode cX7_readName 45 = .ok (.getfield 49, 3) := by decide +kernel
theorem dX7_readName_48 : decode cX7_readName 48 = .ok (.putfield 132, 3) := by decide +kernel
theorem dX7_readName_51 : decode cX7_readName 51 = .ok (.aload_n 0, 1) := by decide +kernel
theorem dX7_readName_52 : decode cX7_readName 52 = .ok (.dup, 1) := by decide +kernel
theorem dX7_readName_53 : decode cX7_readName 53 = .ok (.getfield 49, 3) := by decide +kernel
theorem dX7_readName_56 : decode cX7_readName 56 = .ok (.iconst 1, 1) := by decide +kernel
theorem dX7_readName_57 : decode cX7_readName 57 = .ok (.iadd, 1) := by decide +kernel
theorem dX7_readName_58 : decode cX7_readName 58 = .ok (.putfield 49, 3) := by decide +kernel
theorem dX7_readName_61 : decode cX7_readName 61 = .ok (.return_, 1) := by decide +kernel
theorem dX7_readPlaces_0 : decode cX7_readPlaces 0 = .ok (.aload_n 0, 1) := by decide +kernel
theorem dX7_readPlaces_1 : decode cX7_readPlaces 1 = .ok (.invokevirtual 65, 3) := by decide +kernel
theorem dX7_readPlaces_4 : decode cX7_readPlaces 4 = .ok (.bipush 41, 2) := by decide +kernel
theorem dX7_readPlaces_6 : decode cX7_readPlaces 6 = .ok (.if_icmp .ne 4, 3) := by decide +kernel
theorem dX7_readPlaces_9 : decode cX7_readPlaces 9 = .ok (.return_, 1) := by decide +kernel
theorem dX7_readPlaces_10 : decode cX7_readPlaces 10 = .ok (.aload_n 0, 1) := by decide +kernel
theorem dX7_readPlaces_11 : decode cX7_readPlaces 11 = .ok (.aload_n 1, 1) := by decide +kernel
theorem dX7_readPlaces_12 : decode cX7_readPlaces 12 = .ok (.invokevirtual 135, 3) := by decide +kernel
theorem dX7_readPlaces_15 : decode cX7_readPlaces 15 = .ok (.iconst 0, 1) := by decide +kernel
theorem dX7_readPlaces_16 : decode cX7_readPlaces 16 = .ok (.istore_n 2, 1) := by decide +kernel
theorem dX7_readPlaces_17 : decode cX7_readPlaces 17 = .ok (.iload_n 2, 1) := by decide +kernel
theorem dX7_readPlaces_18 : decode cX7_readPlaces 18 = .ok (.aload_n 0, 1) := by decide +kernel
theorem dX7_readPlaces_19 : decode cX7_readPlaces 19 = .ok (.getfield 34, 3) := by decide +kernel
theorem dX7_readPlaces_22 : decode cX7_readPlaces 22 = .ok (.getfield 138, 3) := by decide +kernel
theorem dX7_readPlaces_25 : decode cX7_readPlaces 25 = .ok (.if_icmp .ge 33, 3) := by decide +kernel
theorem dX7_readPlaces_28 : decode cX7_readPlaces 28 = .ok (.aload_n 0, 1) := by decide +kernel
theorem dX7_readPlaces_29 : decode cX7_readPlaces 29 = .ok (.invokevirtual 65, 3) := by decide +kernel
theorem dX7_readPlaces_32 : decode cX7_readPlaces 32 = .ok (.bipush 44, 2) := by decide +kernel
theorem dX7_readPlaces_34 : decode cX7_readPlaces 34 = .ok (.if_icmp .ne 24, 3) := by decide +kernel
theorem dX7_readPlaces_37 : decode cX7_readPlaces 37 = .ok (.aload_n 0, 1) := by decide +kernel
theorem dX7_readPlaces_38 : decode cX7_readPlaces 38 = .ok (.dup, 1) := by decide +kernel
theorem dX7_readPlaces_39 : decode cX7_readPlaces 39 = .ok (.getfield 49, 3) := by decide +kernel
theorem dX7_readPlaces_42 : decode cX7_readPlaces 42 = .ok (.iconst 1, 1) := by decide +kernel
theorem dX7_readPlaces_43 : decode cX7_readPlaces 43 = .ok (.iadd, 1) := by decide +kernel
theorem dX7_readPlaces_44 : decode cX7_readPlaces 44 = .ok (.putfield 49, 3) := by decide +kernel
theorem dX7_readPlaces_47 : decode cX7_readPlaces 47 = .ok (.aload_n 0, 1) := by decide +kernel
theorem dX7_readPlaces_48 : decode cX7_readPlaces 48 = .ok (.aload_n 1, 1) := by decide +kernel
theorem dX7_readPlaces_49 : decode cX7_readPlaces 49 = .ok (.invokevirtual 135, 3) := by decide +kernel
theorem dX7_readPlaces_52 : decode cX7_readPlaces 52 = .ok (.iinc 2 1, 3) := by decide +kernel
theorem dX7_readPlaces_55 : decode cX7_readPlaces 55 = .ok (.goto (-38), 3) := by decide +kernel
theorem dX7_readPlaces_58 : decode cX7_readPlaces 58 = .ok (.return_, 1) := by decide +kernel
theorem dX7_readPlace_0 : decode cX7_readPlace 0 = .ok (.aload_n 0, 1) := by decide +kernel
theorem dX7_readPlace_1 : decode cX7_readPlace 1 = .ok (.invokevirtual 65, 3) := by decide +kernel
theorem dX7_readPlace_4 : decode cX7_readPlace 4 = .ok (.iconst 3, 1) := by decide +kernel
theorem dX7_readPlace_5 : decode cX7_readPlace 5 = .ok (.if_icmp .eq 11, 3) := by decide +kernel
theorem dX7_readPlace_8 : decode cX7_readPlace 8 = .ok (.aload_n 0, 1) := by decide +kernel
theorem dX7_readPlace_9 : decode cX7_readPlace 9 = .ok (.iconst 1, 1) := by decide +kernel
theorem dX7_readPlace_10 : decode cX7_readPlace 10 = .ok (.invokevirtual 79, 3) := by decide +kernel
theorem dX7_readPlace_13 : decode cX7_readPlace 13 = .ok (.goto 70, 3) := by decide +kernel
theorem dX7_readPlace_16 : decode cX7_readPlace 16 = .ok (.aload_n 1, 1) := by decide +kernel
theorem dX7_readPlace_17 : decode cX7_readPlace 17 = .ok (.aload_n 0, 1) := by decide +kernel
theorem dX7_readPlace_18 : decode cX7_readPlace 18 = .ok (.getfield 34, 3) := by decide +kernel
theorem dX7_readPlace_21 : decode cX7_readPlace 21 = .ok (.aload_n 0, 1) := by decide +kernel
theorem dX7_readPlace_22 : decode cX7_readPlace 22 = .ok (.getfield 49, 3) := by decide +kernel
theorem dX7_readPlace_25 : decode cX7_readPlace 25 = .ok (.invokevirtual 139, 3) := by decide +kernel
theorem dX7_readPlace_28 : decode cX7_readPlace 28 = .ok (.invokevirtual 142, 3) := by decide +kernel
theorem dX7_readPlace_31 : decode cX7_readPlace 31 = .ok (.ifCond .eq 11, 3) := by decide +kernel
theorem dX7_readPlace_34 : decode cX7_readPlace 34 = .ok (.aload_n 0, 1) := by decide +kernel
theorem dX7_readPlace_35 : decode cX7_readPlace 35 = .ok (.iconst 2, 1) := by decide +kernel
theorem dX7_readPlace_36 : decode cX7_readPlace 36 = .ok (.invokevirtual 79, 3) := by decide +kernel
theorem dX7_readPlace_39 : decode cX7_readPlace 39 = .ok (.goto 44, 3) := by decide +kernel
theorem dX7_readPlace_42 : decode cX7_readPlace 42 = .ok (.aload_n 1, 1) := by decide +kernel
theorem dX7_readPlace_43 : decode cX7_readPlace 43 = .ok (.getfield 146, 3) := by decide +kernel
theorem dX7_readPlace_46 : decode cX7_readPlace 46 = .ok (.iconst 3, 1) := by decide +kernel
theorem dX7_readPlace_47 : decode cX7_readPlace 47 = .ok (.if_icmp .lt 11, 3) := by decide +kernel
theorem dX7_readPlace_50 : decode cX7_readPlace 50 = .ok (.aload_n 0, 1) := by decide +kernel
theorem dX7_readPlace_51 : decode cX7_readPlace 51 = .ok (.iconst 3, 1) := by decide +kernel
theorem dX7_readPlace_52 : decode cX7_readPlace 52 = .ok (.invokevirtual 79, 3) := by decide +kernel
theorem dX7_readPlace_55 : decode cX7_readPlace 55 = .ok (.goto 28, 3) := by decide +kernel
theorem dX7_readPlace_58 : decode cX7_readPlace 58 = .ok (.aload_n 1, 1) := by decide +kernel
theorem dX7_readPlace_59 : decode cX7_readPlace 59 = .ok (.aload_n 0, 1) := by decide +kernel
theorem dX7_readPlace_60 : decode cX7_readPlace 60 = .ok (.getfield 34, 3) := by decide +kernel
theorem dX7_readPlace_63 : decode cX7_readPlace 63 = .ok (.aload_n 0, 1) := by decide +kernel
theorem dX7_readPlace_64 : decode cX7_readPlace 64 = .ok (.getfield 49, 3) := by decide +kernel
theorem dX7_readPlace_67 : decode cX7_readPlace 67 = .ok (.invokevirtual 139, 3) := by decide +kernel
theorem dX7_readPlace_70 : decode cX7_readPlace 70 = .ok (.invokevirtual 149, 3) := by decide +kernel
theorem dX7_readPlace_73 : decode cX7_readPlace 73 = .ok (.aload_n 0, 1) := by decide +kernel
theorem dX7_readPlace_74 : decode cX7_readPlace 74 = .ok (.dup, 1) := by decide +kernel
theorem dX7_readPlace_75 : decode cX7_readPlace 75 = .ok (.getfield 49, 3) := by decide +kernel
theorem dX7_readPlace_78 : decode cX7_readPlace 78 = .ok (.iconst 1, 1) := by decide +kernel
theorem dX7_readPlace_79 : decode cX7_readPlace 79 = .ok (.iadd, 1) := by decide +kernel
theorem dX7_readPlace_80 : decode cX7_readPlace 80 = .ok (.putfield 49, 3) := by decide +kernel
theorem dX7_readPlace_83 : decode cX7_readPlace 83 = .ok (.return_, 1) := by decide +kernel
theorem dX7_readBlock_0 : decode cX7_readBlock 0 = .ok (.aload_n 0, 1) := by decide +kernel
theorem dX7_readBlock_1 : decode cX7_readBlock 1 = .ok (.invokevirtual 65, 3) := by decide +kernel
theorem dX7_readBlock_4 : decode cX7_readBlock 4 = .ok (.bipush 123, 2) := by decide +kernel
theorem dX7_readBlock_6 : decode cX7_readBlock 6 = .ok (.if_icmp .eq 9, 3) := by decide +kernel
theorem dX7_readBlock_9 : decode cX7_readBlock 9 = .ok (.aload_n 0, 1) := by decide +kernel
theorem dX7_readBlock_10 : decode cX7_readBlock 10 = .ok (.iconst 1, 1) := by decide +kernel
theorem dX7_readBlock_11 : decode cX7_readBlock 11 = .ok (.invokevirtual 79, 3) := by decide +kernel
theorem dX7_readBlock_14 : decode cX7_readBlock 14 = .ok (.return_, 1) := by decide +kernel
theorem dX7_readBlock_15 : decode cX7_readBlock 15 = .ok (.iload_n 1, 1) := by decide +kernel
theorem dX7_readBlock_16 : decode cX7_readBlock 16 = .ok (.bipush 6, 2) := by decide +kernel
theorem dX7_readBlock_18 : decode cX7_readBlock 18 = .ok (.if_icmp .le 9, 3) := by decide +kernel
theorem dX7_readBlock_21 : decode cX7_readBlock 21 = .ok (.aload_n 0, 1) := by decide +kernel
theorem dX7_readBlock_22 : decode cX7_readBlock 22 = .ok (.iconst 3, 1) := by decide +kernel
theorem dX7_readBlock_23 : decode cX7_readBlock 23 = .ok (.invokevirtual 79, 3) := by decide +kernel
theorem dX7_readBlock_26 : decode cX7_readBlock 26 = .ok (.return_, 1) := by decide +kernel
theorem dX7_readBlock_27 : decode cX7_readBlock 27 = .ok (.aload_n 0, 1) := by decide +kernel
theorem dX7_readBlock_28 : decode cX7_readBlock 28 = .ok (.dup, 1) := by decide +kernel
theorem dX7_readBlock_29 : decode cX7_readBlock 29 = .ok (.getfield 49, 3) := by decide +kernel
theorem dX7_readBlock_32 : decode cX7_readBlock 32 = .ok (.iconst 1, 1) := by decide +kernel
theorem dX7_readBlock_33 : decode cX7_readBlock 33 = .ok (.iadd, 1) := by decide +kernel
theorem dX7_readBlock_34 : decode cX7_readBlock 34 = .ok (.putfield 49, 3) := by decide +kernel
theorem dX7_readBlock_37 : decode cX7_readBlock 37 = .ok (.aload_n 0, 1) := by decide +kernel
theorem dX7_readBlock_38 : decode cX7_readBlock 38 = .ok (.iload_n 1, 1) := by decide +kernel
theorem dX7_readBlock_39 : decode cX7_readBlock 39 = .ok (.invokevirtual 152, 3) := by decide +kernel
theorem dX7_readBlock_42 : decode cX7_readBlock 42 = .ok (.iconst 0, 1) := by decide +kernel
theorem dX7_readBlock_43 : decode cX7_readBlock 43 = .ok (.istore_n 2, 1) := by decide +kernel
theorem dX7_readBlock_44 : decode cX7_readBlock 44 = .ok (.iload_n 2, 1) := by decide +kernel
theorem dX7_readBlock_45 : decode cX7_readBlock 45 = .ok (.aload_n 0, 1) := by decide +kernel
theorem dX7_readBlock_46 : decode cX7_readBlock 46 = .ok (.getfield 34, 3) := by decide +kernel
theorem dX7_readBlock_49 : decode cX7_readBlock 49 = .ok (.getfield 138, 3) := by decide +kernel
theorem dX7_readBlock_52 : decode cX7_readBlock 52 = .ok (.if_icmp .ge 33, 3) := by decide +kernel
theorem dX7_readBlock_55 : decode cX7_readBlock 55 = .ok (.aload_n 0, 1) := by decide +kernel
theorem dX7_readBlock_56 : decode cX7_readBlock 56 = .ok (.invokevirtual 65, 3) := by decide +kernel
theorem dX7_readBlock_59 : decode cX7_readBlock 59 = .ok (.bipush 59, 2) := by decide +kernel
theorem dX7_readBlock_61 : decode cX7_readBlock 61 = .ok (.if_icmp .ne 24, 3) := by decide +kernel
theorem dX7_readBlock_64 : decode cX7_readBlock 64 = .ok (.aload_n 0, 1) := by decide +kernel
theorem dX7_readBlock_65 : decode cX7_readBlock 65 = .ok (.dup, 1) := by decide +kernel
theorem dX7_readBlock_66 : decode cX7_readBlock 66 = .ok (.getfield 49, 3) := by decide +kernel
theorem dX7_readBlock_69 : decode cX7_readBlock 69 = .ok (.iconst 1, 1) := by decide +kernel
theorem dX7_readBlock_70 : decode cX7_readBlock 70 = .ok (.iadd, 1) := by decide +kernel
theorem dX7_readBlock_71 : decode cX7_readBlock 71 = .ok (.putfield 49, 3) := by decide +kernel
theorem dX7_readBlock_74 : decode cX7_readBlock 74 = .ok (.aload_n 0, 1) := by decide +kernel
theorem dX7_readBlock_75 : decode cX7_readBlock 75 = .ok (.iload_n 1, 1) := by decide +kernel
theorem dX7_readBlock_76 : decode cX7_readBlock 76 = .ok (.invokevirtual 152, 3) := by decide +kernel
theorem dX7_readBlock_79 : decode cX7_readBlock 79 = .ok (.iinc 2 1, 3) := by decide +kernel
theorem dX7_readBlock_82 : decode cX7_readBlock 82 = .ok (.goto (-38), 3) := by decide +kernel
theorem dX7_readBlock_85 : decode cX7_readBlock 85 = .ok (.aload_n 0, 1) := by decide +kernel
theorem dX7_readBlock_86 : decode cX7_readBlock 86 = .ok (.bipush 125, 2) := by decide +kernel
theorem dX7_readBlock_88 : decode cX7_readBlock 88 = .ok (.invokevirtual 108, 3) := by decide +kernel
theorem dX7_readBlock_91 : decode cX7_readBlock 91 = .ok (.return_, 1) := by decide +kernel
theorem dX7_readLine_0 : decode cX7_readLine 0 = .ok (.aload_n 0, 1) := by decide +kernel
theorem dX7_readLine_1 : decode cX7_readLine 1 = .ok (.invokevirtual 65, 3) := by decide +kernel
theorem dX7_readLine_4 : decode cX7_readLine 4 = .ok (.invokestatic 155, 3) := by decide +kernel
theorem dX7_readLine_7 : decode cX7_readLine 7 = .ok (.istore_n 2, 1) := by decide +kernel
theorem dX7_readLine_8 : decode cX7_readLine 8 = .ok (.iload_n 2, 1) := by decide +kernel
theorem dX7_readLine_9 : decode cX7_readLine 9 = .ok (.iconst (-1), 1) := by decide +kernel
theorem dX7_readLine_10 : decode cX7_readLine 10 = .ok (.if_icmp .ne 9, 3) := by decide +kernel
theorem dX7_readLine_13 : decode cX7_readLine 13 = .ok (.aload_n 0, 1) := by decide +kernel
theorem dX7_readLine_14 : decode cX7_readLine 14 = .ok (.iconst 1, 1) := by decide +kernel
theorem dX7_readLine_15 : decode cX7_readLine 15 = .ok (.invokevirtual 79, 3) := by decide +kernel
theorem dX7_readLine_18 : decode cX7_readLine 18 = .ok (.return_, 1) := by decide +kernel
theorem dX7_readLine_19 : decode cX7_readLine 19 = .ok (.aload_n 0, 1) := by decide +kernel
theorem dX7_readLine_20 : decode cX7_readLine 20 = .ok (.getfield 24, 3) := by decide +kernel
theorem dX7_readLine_23 : decode cX7_readLine 23 = .ok (.iload_n 2, 1) := by decide +kernel
theorem dX7_readLine_24 : decode cX7_readLine 24 = .ok (.aload_n 0, 1) := by decide +kernel
theorem dX7_readLine_25 : decode cX7_readLine 25 = .ok (.getfield 34, 3) := by decide +kernel
theorem dX7_readLine_28 : decode cX7_readLine 28 = .ok (.aload_n 0, 1) := by decide +kernel
theorem dX7_readLine_29 : decode cX7_readLine 29 = .ok (.getfield 49, 3) := by decide +kernel
theorem dX7_readLine_32 : decode cX7_readLine 32 = .ok (.invokevirtual 72, 3) := by decide +kernel
theorem dX7_readLine_35 : decode cX7_readLine 35 = .ok (.iload_n 1, 1) := by decide +kernel
theorem dX7_readLine_36 : decode cX7_readLine 36 = .ok (.invokevirtual 158, 3) := by decide +kernel
theorem dX7_readLine_39 : decode cX7_readLine 39 = .ok (.istore_n 3, 1) := by decide +kernel
theorem dX7_readLine_40 : decode cX7_readLine 40 = .ok (.iload_n 3, 1) := by decide +kernel
theorem dX7_readLine_41 : decode cX7_readLine 41 = .ok (.iconst (-1), 1) := by decide +kernel
theorem dX7_readLine_42 : decode cX7_readLine 42 = .ok (.if_icmp .ne 9, 3) := by decide +kernel
theorem dX7_readLine_45 : decode cX7_readLine 45 = .ok (.aload_n 0, 1) := by decide +kernel
theorem dX7_readLine_46 : decode cX7_readLine 46 = .ok (.iconst 3, 1) := by decide +kernel
theorem dX7_readLine_47 : decode cX7_readLine 47 = .ok (.invokevirtual 79, 3) := by decide +kernel
theorem dX7_readLine_50 : decode cX7_readLine 50 = .ok (.return_, 1) := by decide +kernel
theorem dX7_readLine_51 : decode cX7_readLine 51 = .ok (.aload_n 0, 1) := by decide +kernel
theorem dX7_readLine_52 : decode cX7_readLine 52 = .ok (.getfield 49, 3) := by decide +kernel
theorem dX7_readLine_55 : decode cX7_readLine 55 = .ok (.istore 4, 2) := by decide +kernel
theorem dX7_readLine_57 : decode cX7_readLine 57 = .ok (.aload_n 0, 1) := by decide +kernel
theorem dX7_readLine_58 : decode cX7_readLine 58 = .ok (.dup, 1) := by decide +kernel
theorem dX7_readLine_59 : decode cX7_readLine 59 = .ok (.getfield 49, 3) := by decide +kernel
theorem dX7_readLine_62 : decode cX7_readLine 62 = .ok (.iconst 1, 1) := by decide +kernel
theorem dX7_readLine_63 : decode cX7_readLine 63 = .ok (.iadd, 1) := by decide +kernel
theorem dX7_readLine_64 : decode cX7_readLine 64 = .ok (.putfield 49, 3) := by decide +kernel
theorem dX7_readLine_67 : decode cX7_readLine 67 = .ok (.aload_n 0, 1) := by decide +kernel
theorem dX7_readLine_68 : decode cX7_readLine 68 = .ok (.getfield 39, 3) := by decide +kernel
theorem dX7_readLine_71 : decode cX7_readLine 71 = .ok (.iconst 0, 1) := by decide +kernel
theorem dX7_readLine_72 : decode cX7_readLine 72 = .ok (.iconst 0, 1) := by decide +kernel
theorem dX7_readLine_73 : decode cX7_readLine 73 = .ok (.iload_n 3, 1) := by decide +kernel
theorem dX7_readLine_74 : decode cX7_readLine 74 = .ok (.invokevirtual 117, 3) := by decide +kernel
theorem dX7_readLine_77 : decode cX7_readLine 77 = .ok (.pop, 1) := by decide +kernel
theorem dX7_readLine_78 : decode cX7_readLine 78 = .ok (.iload_n 2, 1) := by decide +kernel
theorem dX7_readLine_79 : decode cX7_readLine 79 = .ok (.tableswitch 112 0 3 #[29, 63, 83, 103], 29) := by decide +kernel
theorem dX7_readLine_108 : decode cX7_readLine 108 = .ok (.aload_n 0, 1) := by decide +kernel
theorem dX7_readLine_109 : decode cX7_readLine 109 = .ok (.bipush 61, 2) := by decide +kernel
theorem dX7_readLine_111 : decode cX7_readLine 111 = .ok (.invokevirtual 108, 3) := by decide +kernel
theorem dX7_readLine_114 : decode cX7_readLine 114 = .ok (.aload_n 0, 1) := by decide +kernel
theorem dX7_readLine_115 : decode cX7_readLine 115 = .ok (.iconst 0, 1) := by decide +kernel
theorem dX7_readLine_116 : decode cX7_readLine 116 = .ok (.invokevirtual 161, 3) := by decide +kernel
theorem dX7_readLine_119 : decode cX7_readLine 119 = .ok (.aload_n 0, 1) := by decide +kernel
theorem dX7_readLine_120 : decode cX7_readLine 120 = .ok (.getfield 39, 3) := by decide +kernel
theorem dX7_readLine_123 : decode cX7_readLine 123 = .ok (.bipush 10, 2) := by decide +kernel
theorem dX7_readLine_125 : decode cX7_readLine 125 = .ok (.aload_n 0, 1) := by decide +kernel
theorem dX7_readLine_126 : decode cX7_readLine 126 = .ok (.getfield 34, 3) := by decide +kernel
theorem dX7_readLine_129 : decode cX7_readLine 129 = .ok (.iload 4, 2) := by decide +kernel
theorem dX7_readLine_131 : decode cX7_readLine 131 = .ok (.invokevirtual 139, 3) := by decide +kernel
theorem dX7_readLine_134 : decode cX7_readLine 134 = .ok (.iload_n 3, 1) := by decide +kernel
theorem dX7_readLine_135 : decode cX7_readLine 135 = .ok (.invokevirtual 117, 3) := by decide +kernel
theorem dX7_readLine_138 : decode cX7_readLine 138 = .ok (.pop, 1) := by decide +kernel
theorem dX7_readLine_139 : decode cX7_readLine 139 = .ok (.goto 58, 3) := by decide +kernel
theorem dX7_readLine_142 : decode cX7_readLine 142 = .ok (.aload_n 0, 1) := by decide +kernel
theorem dX7_readLine_143 : decode cX7_readLine 143 = .ok (.iconst 0, 1) := by decide +kernel
theorem dX7_readLine_144 : decode cX7_readLine 144 = .ok (.invokevirtual 161, 3) := by decide +kernel
theorem dX7_readLine_147 : decode cX7_readLine 147 = .ok (.aload_n 0, 1) := by decide +kernel
theorem dX7_readLine_148 : decode cX7_readLine 148 = .ok (.getfield 39, 3) := by decide +kernel
theorem dX7_readLine_151 : decode cX7_readLine 151 = .ok (.bipush 11, 2) := by decide +kernel
theorem dX7_readLine_153 : decode cX7_readLine 153 = .ok (.iconst 0, 1) := by decide +kernel
theorem dX7_readLine_154 : decode cX7_readLine 154 = .ok (.iload_n 3, 1) := by decide +kernel
theorem dX7_readLine_155 : decode cX7_readLine 155 = .ok (.invokevirtual 117, 3) := by decide +kernel
theorem dX7_readLine_158 : decode cX7_readLine 158 = .ok (.pop, 1) := by decide +kernel
theorem dX7_readLine_159 : decode cX7_readLine 159 = .ok (.goto 38, 3) := by decide +kernel
theorem dX7_readLine_162 : decode cX7_readLine 162 = .ok (.aload_n 0, 1) := by decide +kernel
theorem dX7_readLine_163 : decode cX7_readLine 163 = .ok (.iconst 0, 1) := by decide +kernel
theorem dX7_readLine_164 : decode cX7_readLine 164 = .ok (.invokevirtual 161, 3) := by decide +kernel
theorem dX7_readLine_167 : decode cX7_readLine 167 = .ok (.aload_n 0, 1) := by decide +kernel
theorem dX7_readLine_168 : decode cX7_readLine 168 = .ok (.getfield 39, 3) := by decide +kernel
theorem dX7_readLine_171 : decode cX7_readLine 171 = .ok (.bipush 12, 2) := by decide +kernel
theorem dX7_readLine_173 : decode cX7_readLine 173 = .ok (.iconst 0, 1) := by decide +kernel
theorem dX7_readLine_174 : decode cX7_readLine 174 = .ok (.iload_n 3, 1) := by decide +kernel
theorem dX7_readLine_175 : decode cX7_readLine 175 = .ok (.invokevirtual 117, 3) := by decide +kernel
theorem dX7_readLine_178 : decode cX7_readLine 178 = .ok (.pop, 1) := by decide +kernel
theorem dX7_readLine_179 : decode cX7_readLine 179 = .ok (.goto 18, 3) := by decide +kernel
theorem dX7_readLine_182 : decode cX7_readLine 182 = .ok (.aload_n 0, 1) := by decide +kernel
theorem dX7_readLine_183 : decode cX7_readLine 183 = .ok (.iload_n 3, 1) := by decide +kernel
theorem dX7_readLine_184 : decode cX7_readLine 184 = .ok (.iload_n 1, 1) := by decide +kernel
theorem dX7_readLine_185 : decode cX7_readLine 185 = .ok (.invokevirtual 164, 3) := by decide +kernel
theorem dX7_readLine_188 : decode cX7_readLine 188 = .ok (.goto 9, 3) := by decide +kernel
theorem dX7_readLine_191 : decode cX7_readLine 191 = .ok (.aload_n 0, 1) := by decide +kernel
theorem dX7_readLine_192 : decode cX7_readLine 192 = .ok (.iload_n 3, 1) := by decide +kernel
theorem dX7_readLine_193 : decode cX7_readLine 193 = .ok (.iload_n 1, 1) := by decide +kernel
theorem dX7_readLine_194 : decode cX7_readLine 194 = .ok (.invokevirtual 168, 3) := by decide +kernel
theorem dX7_readLine_197 : decode cX7_readLine 197 = .ok (.return_, 1) := by decide +kernel
theorem dX7_lineKindOf_0 : decode cX7_lineKindOf 0 = .ok (.iload_n 0, 1) := by decide +kernel
theorem dX7_lineKindOf_1 : decode cX7_lineKindOf 1 = .ok (.tableswitch 57 3 10 #[47, 57, 57, 49, 51, 53, 57, 55], 47) := by decide +kernel
theorem dX7_lineKindOf_48 : decode cX7_lineKindOf 48 = .ok (.iconst 0, 1) := by decide +kernel
theorem dX7_lineKindOf_49 : decode cX7_lineKindOf 49 = .ok (.ireturn, 1) := by decide +kernel
theorem dX7_lineKindOf_50 : decode cX7_lineKindOf 50 = .ok (.iconst 1, 1) := by decide +kernel
theorem dX7_lineKindOf_51 : decode cX7_lineKindOf 51 = .ok (.ireturn, 1) := by decide +kernel
theorem dX7_lineKindOf_52 : decode cX7_lineKindOf 52 = .ok (.iconst 2, 1) := by decide +kernel
theorem dX7_lineKindOf_53 : decode cX7_lineKindOf 53 = .ok (.ireturn, 1) := by decide +kernel
theorem dX7_lineKindOf_54 : decode cX7_lineKindOf 54 = .ok (.iconst 3, 1) := by decide +kernel
theorem dX7_lineKindOf_55 : decode cX7_lineKindOf 55 = .ok (.ireturn, 1) := by decide +kernel
theorem dX7_lineKindOf_56 : decode cX7_lineKindOf 56 = .ok (.iconst 4, 1) := by decide +kernel
theorem dX7_lineKindOf_57 : decode cX7_lineKindOf 57 = .ok (.ireturn, 1) := by decide +kernel
theorem dX7_lineKindOf_58 : decode cX7_lineKindOf 58 = .ok (.iconst (-1), 1) := by decide +kernel
theorem dX7_lineKindOf_59 : decode cX7_lineKindOf 59 = .ok (.ireturn, 1) := by decide +kernel
theorem dX7_readIf_0 : decode cX7_readIf 0 = .ok (.aload_n 0, 1) := by decide +kernel
theorem dX7_readIf_1 : decode cX7_readIf 1 = .ok (.invokevirtual 173, 3) := by decide +kernel
theorem dX7_readIf_4 : decode cX7_readIf 4 = .ok (.aload_n 0, 1) := by decide +kernel
theorem dX7_readIf_5 : decode cX7_readIf 5 = .ok (.getfield 39, 3) := by decide +kernel
theorem dX7_readIf_8 : decode cX7_readIf 8 = .ok (.bipush 13, 2) := by decide +kernel
theorem dX7_readIf_10 : decode cX7_readIf 10 = .ok (.iconst 0, 1) := by decide +kernel
theorem dX7_readIf_11 : decode cX7_readIf 11 = .ok (.iload_n 1, 1) := by decide +kernel
theorem dX7_readIf_12 : decode cX7_readIf 12 = .ok (.invokevirtual 117, 3) := by decide +kernel
theorem dX7_readIf_15 : decode cX7_readIf 15 = .ok (.istore_n 3, 1) := by decide +kernel
theorem dX7_readIf_16 : decode cX7_readIf 16 = .ok (.aload_n 0, 1) := by decide +kernel
theorem dX7_readIf_17 : decode cX7_readIf 17 = .ok (.iload_n 2, 1) := by decide +kernel
theorem dX7_readIf_18 : decode cX7_readIf 18 = .ok (.iconst 1, 1) := by decide +kernel
theorem dX7_readIf_19 : decode cX7_readIf 19 = .ok (.iadd, 1) := by decide +kernel
theorem dX7_readIf_20 : decode cX7_readIf 20 = .ok (.invokevirtual 114, 3) := by decide +kernel
theorem dX7_readIf_23 : decode cX7_readIf 23 = .ok (.aload_n 0, 1) := by decide +kernel
theorem dX7_readIf_24 : decode cX7_readIf 24 = .ok (.invokevirtual 65, 3) := by decide +kernel
theorem dX7_readIf_27 : decode cX7_readIf 27 = .ok (.bipush 9, 2) := by decide +kernel
theorem dX7_readIf_29 : decode cX7_readIf 29 = .ok (.if_icmp .eq 19, 3) := by decide +kernel
theorem dX7_readIf_32 : decode cX7_readIf 32 = .ok (.aload_n 0, 1) := by decide +kernel
theorem dX7_readIf_33 : decode cX7_readIf 33 = .ok (.getfield 39, 3) := by decide +kernel
theorem dX7_readIf_36 : decode cX7_readIf 36 = .ok (.iload_n 3, 1) := by decide +kernel
theorem dX7_readIf_37 : decode cX7_readIf 37 = .ok (.aload_n 0, 1) := by decide +kernel
theorem dX7_readIf_38 : decode cX7_readIf 38 = .ok (.getfield 39, 3) := by decide +kernel
theorem dX7_readIf_41 : decode cX7_readIf 41 = .ok (.getfield 93, 3) := by decide +kernel
theorem dX7_readIf_44 : decode cX7_readIf 44 = .ok (.invokevirtual 176, 3) := by decide +kernel
theorem dX7_readIf_47 : decode cX7_readIf 47 = .ok (.return_, 1) := by decide +kernel
theorem dX7_readIf_48 : decode cX7_readIf 48 = .ok (.aload_n 0, 1) := by decide +kernel
theorem dX7_readIf_49 : decode cX7_readIf 49 = .ok (.dup, 1) := by decide +kernel
theorem dX7_readIf_50 : decode cX7_readIf 50 = .ok (.getfield 49, 3) := by decide +kernel
theorem dX7_readIf_53 : decode cX7_readIf 53 = .ok (.iconst 1, 1) := by decide +kernel
theorem dX7_readIf_54 : decode cX7_readIf 54 = .ok (.iadd, 1) := by decide +kernel
theorem dX7_readIf_55 : decode cX7_readIf 55 = .ok (.putfield 49, 3) := by decide +kernel
theorem dX7_readIf_58 : decode cX7_readIf 58 = .ok (.aload_n 0, 1) := by decide +kernel
theorem dX7_readIf_59 : decode cX7_readIf 59 = .ok (.getfield 39, 3) := by decide +kernel
theorem dX7_readIf_62 : decode cX7_readIf 62 = .ok (.bipush 15, 2) := by decide +kernel
theorem dX7_readIf_64 : decode cX7_readIf 64 = .ok (.iconst 0, 1) := by decide +kernel
theorem dX7_readIf_65 : decode cX7_readIf 65 = .ok (.iload_n 1, 1) := by decide +kernel
theorem dX7_readIf_66 : decode cX7_readIf 66 = .ok (.invokevirtual 117, 3) := by decide +kernel
theorem dX7_readIf_69 : decode cX7_readIf 69 = .ok (.istore 4, 2) := by decide +kernel
theorem dX7_readIf_71 : decode cX7_readIf 71 = .ok (.aload_n 0, 1) := by decide +kernel
theorem dX7_readIf_72 : decode cX7_readIf 72 = .ok (.getfield 39, 3) := by decide +kernel
theorem dX7_readIf_75 : decode cX7_readIf 75 = .ok (.iload_n 3, 1) := by decide +kernel
theorem dX7_readIf_76 : decode cX7_readIf 76 = .ok (.aload_n 0, 1) := by decide +kernel
theorem dX7_readIf_77 : decode cX7_readIf 77 = .ok (.getfield 39, 3) := by decide +kernel
theorem dX7_readIf_80 : decode cX7_readIf 80 = .ok (.getfield 93, 3) := by decide +kernel
theorem dX7_readIf_83 : decode cX7_readIf 83 = .ok (.invokevirtual 176, 3) := by decide +kernel
theorem dX7_readIf_86 : decode cX7_readIf 86 = .ok (.aload_n 0, 1) := by decide +kernel
theorem dX7_readIf_87 : decode cX7_readIf 87 = .ok (.iload_n 2, 1) := by decide +kernel
theorem dX7_readIf_88 : decode cX7_readIf 88 = .ok (.iconst 1, 1) := by decide +kernel
theorem dX7_readIf_89 : decode cX7_readIf 89 = .ok (.iadd, 1) := by decide +kernel
theorem dX7_readIf_90 : decode cX7_readIf 90 = .ok (.invokevirtual 114, 3) := by decide +kernel
theorem dX7_readIf_93 : decode cX7_readIf 93 = .ok (.aload_n 0, 1) := by decide +kernel
theorem dX7_readIf_94 : decode cX7_readIf 94 = .ok (.getfield 39, 3) := by decide +kernel
theorem dX7_readIf_97 : decode cX7_readIf 97 = .ok (.iload 4, 2) := by decide +kernel
theorem dX7_readIf_99 : decode cX7_readIf 99 = .ok (.aload_n 0, 1) := by decide +kernel
theorem dX7_readIf_100 : decode cX7_readIf 100 = .ok (.getfield 39, 3) := by decide +kernel
theorem dX7_readIf_103 : decode cX7_readIf 103 = .ok (.getfield 93, 3) := by decide +kernel
theorem dX7_readIf_106 : decode cX7_readIf 106 = .ok (.invokevirtual 176, 3) := by decide +kernel
theorem dX7_readIf_109 : decode cX7_readIf 109 = .ok (.return_, 1) := by decide +kernel
theorem dX7_readWhile_0 : decode cX7_readWhile 0 = .ok (.aload_n 0, 1) := by decide +kernel
theorem dX7_readWhile_1 : decode cX7_readWhile 1 = .ok (.getfield 39, 3) := by decide +kernel
theorem dX7_readWhile_4 : decode cX7_readWhile 4 = .ok (.getfield 93, 3) := by decide +kernel
theorem dX7_readWhile_7 : decode cX7_readWhile 7 = .ok (.istore_n 3, 1) := by decide +kernel
theorem dX7_readWhile_8 : decode cX7_readWhile 8 = .ok (.aload_n 0, 1) := by decide +kernel
theorem dX7_readWhile_9 : decode cX7_readWhile 9 = .ok (.invokevirtual 173, 3) := by decide +kernel
theorem dX7_readWhile_12 : decode cX7_readWhile 12 = .ok (.aload_n 0, 1) := by decide +kernel
theorem dX7_readWhile_13 : decode cX7_readWhile 13 = .ok (.getfield 39, 3) := by decide +kernel
theorem dX7_readWhile_16 : decode cX7_readWhile 16 = .ok (.bipush 13, 2) := by decide +kernel
theorem dX7_readWhile_18 : decode cX7_readWhile 18 = .ok (.iconst 0, 1) := by decide +kernel
theorem dX7_readWhile_19 : decode cX7_readWhile 19 = .ok (.iload_n 1, 1) := by decide +kernel
theorem dX7_readWhile_20 : decode cX7_readWhile 20 = .ok (.invokevirtual 117, 3) := by decide +kernel
theorem dX7_readWhile_23 : decode cX7_readWhile 23 = .ok (.istore 4, 2) := by decide +kernel
theorem dX7_readWhile_25 : decode cX7_readWhile 25 = .ok (.aload_n 0, 1) := by decide +kernel
theorem dX7_readWhile_26 : decode cX7_readWhile 26 = .ok (.iload_n 2, 1) := by decide +kernel
theorem dX7_readWhile_27 : decode cX7_readWhile 27 = .ok (.iconst 1, 1) := by decide +kernel
theorem dX7_readWhile_28 : decode cX7_readWhile 28 = .ok (.iadd, 1) := by decide +kernel
theorem dX7_readWhile_29 : decode cX7_readWhile 29 = .ok (.invokevirtual 114, 3) := by decide +kernel
theorem dX7_readWhile_32 : decode cX7_readWhile 32 = .ok (.aload_n 0, 1) := by decide +kernel
theorem dX7_readWhile_33 : decode cX7_readWhile 33 = .ok (.getfield 39, 3) := by decide +kernel
theorem dX7_readWhile_36 : decode cX7_readWhile 36 = .ok (.bipush 14, 2) := by decide +kernel
theorem dX7_readWhile_38 : decode cX7_readWhile 38 = .ok (.iload_n 3, 1) := by decide +kernel
theorem dX7_readWhile_39 : decode cX7_readWhile 39 = .ok (.iload_n 1, 1) := by decide +kernel
theorem dX7_readWhile_40 : decode cX7_readWhile 40 = .ok (.invokevirtual 117, 3) := by decide +kernel
theorem dX7_readWhile_43 : decode cX7_readWhile 43 = .ok (.pop, 1) := by decide +kernel
theorem dX7_readWhile_44 : decode cX7_readWhile 44 = .ok (.aload_n 0, 1) := by decide +kernel
theorem dX7_readWhile_45 : decode cX7_readWhile 45 = .ok (.getfield 39, 3) := by decide +kernel
theorem dX7_readWhile_48 : decode cX7_readWhile 48 = .ok (.iload 4, 2) := by decide +kernel
theorem dX7_readWhile_50 : decode cX7_readWhile 50 = .ok (.aload_n 0, 1) := by decide +kernel
theorem dX7_readWhile_51 : decode cX7_readWhile 51 = .ok (.getfield 39, 3) := by decide +kernel
theorem dX7_readWhile_54 : decode cX7_readWhile 54 = .ok (.getfield 93, 3) := by decide +kernel
theorem dX7_readWhile_57 : decode cX7_readWhile 57 = .ok (.invokevirtual 176, 3) := by decide +kernel
theorem dX7_readWhile_60 : decode cX7_readWhile 60 = .ok (.return_, 1) := by decide +kernel
theorem dX7_readTest_0 : decode cX7_readTest 0 = .ok (.aload_n 0, 1) := by decide +kernel
theorem dX7_readTest_1 : decode cX7_readTest 1 = .ok (.iconst 0, 1) := by decide +kernel
theorem dX7_readTest_2 : decode cX7_readTest 2 = .ok (.invokevirtual 161, 3) := by decide +kernel
theorem dX7_readTest_5 : decode cX7_readTest 5 = .ok (.aload_n 0, 1) := by decide +kernel
theorem dX7_readTest_6 : decode cX7_readTest 6 = .ok (.invokevirtual 65, 3) := by decide +kernel
theorem dX7_readTest_9 : decode cX7_readTest 9 = .ok (.istore_n 1, 1) := by decide +kernel
theorem dX7_readTest_10 : decode cX7_readTest 10 = .ok (.iload_n 1, 1) := by decide +kernel
theorem dX7_readTest_11 : decode cX7_readTest 11 = .ok (.bipush 60, 2) := by decide +kernel
theorem dX7_readTest_13 : decode cX7_readTest 13 = .ok (.if_icmp .eq 21, 3) := by decide +kernel
theorem dX7_readTest_16 : decode cX7_readTest 16 = .ok (.iload_n 1, 1) := by decide +kernel
theorem dX7_readTest_17 : decode cX7_readTest 17 = .ok (.bipush 62, 2) := by decide +kernel
theorem dX7_readTest_19 : decode cX7_readTest 19 = .ok (.if_icmp .eq 15, 3) := by decide +kernel
theorem dX7_readTest_22 : decode cX7_readTest 22 = .ok (.iload_n 1, 1) := by decide +kernel
theorem dX7_readTest_23 : decode cX7_readTest 23 = .ok (.bipush 61, 2) := by decide +kernel
theorem dX7_readTest_25 : decode cX7_readTest 25 = .ok (.if_icmp .eq 9, 3) := by decide +kernel
theorem dX7_readTest_28 : decode cX7_readTest 28 = .ok (.aload_n 0, 1) := by decide +kernel
theorem dX7_readTest_29 : decode cX7_readTest 29 = .ok (.iconst 1, 1) := by decide +kernel
theorem dX7_readTest_30 : decode cX7_readTest 30 = .ok (.invokevirtual 79, 3) := by decide +kernel
theorem dX7_readTest_33 : decode cX7_readTest 33 = .ok (.return_, 1) := by decide +kernel
theorem dX7_readTest_34 : decode cX7_readTest 34 = .ok (.aload_n 0, 1) := by decide +kernel
theorem dX7_readTest_35 : decode cX7_readTest 35 = .ok (.dup, 1) := by decide +kernel
theorem dX7_readTest_36 : decode cX7_readTest 36 = .ok (.getfield 49, 3) := by decide +kernel
theorem dX7_readTest_39 : decode cX7_readTest 39 = .ok (.iconst 1, 1) := by decide +kernel
theorem dX7_readTest_40 : decode cX7_readTest 40 = .ok (.iadd, 1) := by decide +kernel
theorem dX7_readTest_41 : decode cX7_readTest 41 = .ok (.putfield 49, 3) := by decide +kernel
theorem dX7_readTest_44 : decode cX7_readTest 44 = .ok (.aload_n 0, 1) := by decide +kernel
theorem dX7_readTest_45 : decode cX7_readTest 45 = .ok (.iconst 0, 1) := by decide +kernel
theorem dX7_readTest_46 : decode cX7_readTest 46 = .ok (.invokevirtual 161, 3) := by decide +kernel
theorem dX7_readTest_49 : decode cX7_readTest 49 = .ok (.aload_n 0, 1) := by decide +kernel
theorem dX7_readTest_50 : decode cX7_readTest 50 = .ok (.getfield 39, 3) := by decide +kernel
theorem dX7_readTest_53 : decode cX7_readTest 53 = .ok (.iload_n 1, 1) := by decide +kernel
theorem dX7_readTest_54 : decode cX7_readTest 54 = .ok (.bipush 60, 2) := by decide +kernel
theorem dX7_readTest_56 : decode cX7_readTest 56 = .ok (.if_icmp .ne 8, 3) := by decide +kernel
theorem dX7_readTest_59 : decode cX7_readTest 59 = .ok (.bipush 6, 2) := by decide +kernel
theorem dX7_readTest_61 : decode cX7_readTest 61 = .ok (.goto 16, 3) := by decide +kernel
theorem dX7_readTest_64 : decode cX7_readTest 64 = .ok (.iload_n 1, 1) := by decide +kernel
theorem dX7_readTest_65 : decode cX7_readTest 65 = .ok (.bipush 62, 2) := by decide +kernel
theorem dX7_readTest_67 : decode cX7_readTest 67 = .ok (.if_icmp .ne 8, 3) := by decide +kernel
theorem dX7_readTest_70 : decode cX7_readTest 70 = .ok (.bipush 7, 2) := by decide +kernel
theorem dX7_readTest_72 : decode cX7_readTest 72 = .ok (.goto 5, 3) := by decide +kernel
theorem dX7_readTest_75 : decode cX7_readTest 75 = .ok (.bipush 8, 2) := by decide +kernel
theorem dX7_readTest_77 : decode cX7_readTest 77 = .ok (.iconst 0, 1) := by decide +kernel
theorem dX7_readTest_78 : decode cX7_readTest 78 = .ok (.iconst 0, 1) := by decide +kernel
theorem dX7_readTest_79 : decode cX7_readTest 79 = .ok (.invokevirtual 117, 3) := by decide +kernel
theorem dX7_readTest_82 : decode cX7_readTest 82 = .ok (.pop, 1) := by decide +kernel
theorem dX7_readTest_83 : decode cX7_readTest 83 = .ok (.return_, 1) := by decide +kernel
theorem dX7_readSum_0 : decode cX7_readSum 0 = .ok (.aload_n 0, 1) := by decide +kernel
theorem dX7_readSum_1 : decode cX7_readSum 1 = .ok (.iload_n 1, 1) := by decide +kernel
theorem dX7_readSum_2 : decode cX7_readSum 2 = .ok (.invokevirtual 179, 3) := by decide +kernel
theorem dX7_readSum_5 : decode cX7_readSum 5 = .ok (.iconst 0, 1) := by decide +kernel
theorem dX7_readSum_6 : decode cX7_readSum 6 = .ok (.istore_n 2, 1) := by decide +kernel
theorem dX7_readSum_7 : decode cX7_readSum 7 = .ok (.iload_n 2, 1) := by decide +kernel
theorem dX7_readSum_8 : decode cX7_readSum 8 = .ok (.aload_n 0, 1) := by decide +kernel
theorem dX7_readSum_9 : decode cX7_readSum 9 = .ok (.getfield 34, 3) := by decide +kernel
theorem dX7_readSum_12 : decode cX7_readSum 12 = .ok (.getfield 138, 3) := by decide +kernel
theorem dX7_readSum_15 : decode cX7_readSum 15 = .ok (.if_icmp .ge 68, 3) := by decide +kernel
theorem dX7_readSum_18 : decode cX7_readSum 18 = .ok (.aload_n 0, 1) := by decide +kernel
theorem dX7_readSum_19 : decode cX7_readSum 19 = .ok (.invokevirtual 65, 3) := by decide +kernel
theorem dX7_readSum_22 : decode cX7_readSum 22 = .ok (.bipush 43, 2) := by decide +kernel
theorem dX7_readSum_24 : decode cX7_readSum 24 = .ok (.if_icmp .eq 12, 3) := by decide +kernel
theorem dX7_readSum_27 : decode cX7_readSum 27 = .ok (.aload_n 0, 1) := by decide +kernel
theorem dX7_readSum_28 : decode cX7_readSum 28 = .ok (.invokevirtual 65, 3) := by decide +kernel
theorem dX7_readSum_31 : decode cX7_readSum 31 = .ok (.bipush 45, 2) := by decide +kernel
theorem dX7_readSum_33 : decode cX7_readSum 33 = .ok (.if_icmp .ne 50, 3) := by decide +kernel
theorem dX7_readSum_36 : decode cX7_readSum 36 = .ok (.aload_n 0, 1) := by decide +kernel
theorem dX7_readSum_37 : decode cX7_readSum 37 = .ok (.invokevirtual 65, 3) := by decide +kernel
theorem dX7_readSum_40 : decode cX7_readSum 40 = .ok (.bipush 43, 2) := by decide +kernel
theorem dX7_readSum_42 : decode cX7_readSum 42 = .ok (.if_icmp .ne 7, 3) := by decide +kernel
theorem dX7_readSum_45 : decode cX7_readSum 45 = .ok (.iconst 3, 1) := by decide +kernel
theorem dX7_readSum_46 : decode cX7_readSum 46 = .ok (.goto 4, 3) := by decide +kernel
theorem dX7_readSum_49 : decode cX7_readSum 49 = .ok (.iconst 4, 1) := by decide +kernel
theorem dX7_readSum_50 : decode cX7_readSum 50 = .ok (.istore_n 3, 1) := by decide +kernel
theorem dX7_readSum_51 : decode cX7_readSum 51 = .ok (.aload_n 0, 1) := by decide +kernel
theorem dX7_readSum_52 : decode cX7_readSum 52 = .ok (.dup, 1) := by decide +kernel
theorem dX7_readSum_53 : decode cX7_readSum 53 = .ok (.getfield 49, 3) := by decide +kernel
theorem dX7_readSum_56 : decode cX7_readSum 56 = .ok (.iconst 1, 1) := by decide +kernel
theorem dX7_readSum_57 : decode cX7_readSum 57 = .ok (.iadd, 1) := by decide +kernel
theorem dX7_readSum_58 : decode cX7_readSum 58 = .ok (.putfield 49, 3) := by decide +kernel
theorem dX7_readSum_61 : decode cX7_readSum 61 = .ok (.aload_n 0, 1) := by decide +kernel
theorem dX7_readSum_62 : decode cX7_readSum 62 = .ok (.iload_n 1, 1) := by decide +kernel
theorem dX7_readSum_63 : decode cX7_readSum 63 = .ok (.invokevirtual 179, 3) := by decide +kernel
theorem dX7_readSum_66 : decode cX7_readSum 66 = .ok (.aload_n 0, 1) := by decide +kernel
theorem dX7_readSum_67 : decode cX7_readSum 67 = .ok (.getfield 39, 3) := by decide +kernel
theorem dX7_readSum_70 : decode cX7_readSum 70 = .ok (.iload_n 3, 1) := by decide +kernel
theorem dX7_readSum_71 : decode cX7_readSum 71 = .ok (.iconst 0, 1) := by decide +kernel
theorem dX7_readSum_72 : decode cX7_readSum 72 = .ok (.iconst 0, 1) := by decide +kernel
theorem dX7_readSum_73 : decode cX7_readSum 73 = .ok (.invokevirtual 117, 3) := by decide +kernel
theorem dX7_readSum_76 : decode cX7_readSum 76 = .ok (.pop, 1) := by decide +kernel
theorem dX7_readSum_77 : decode cX7_readSum 77 = .ok (.iinc 2 1, 3) := by decide +kernel
theorem dX7_readSum_80 : decode cX7_readSum 80 = .ok (.goto (-73), 3) := by decide +kernel
theorem dX7_readSum_83 : decode cX7_readSum 83 = .ok (.return_, 1) := by decide +kernel
theorem dX7_readTerm_0 : decode cX7_readTerm 0 = .ok (.aload_n 0, 1) := by decide +kernel
theorem dX7_readTerm_1 : decode cX7_readTerm 1 = .ok (.iload_n 1, 1) := by decide +kernel
theorem dX7_readTerm_2 : decode cX7_readTerm 2 = .ok (.invokevirtual 182, 3) := by decide +kernel
theorem dX7_readTerm_5 : decode cX7_readTerm 5 = .ok (.iconst 0, 1) := by decide +kernel
theorem dX7_readTerm_6 : decode cX7_readTerm 6 = .ok (.istore_n 2, 1) := by decide +kernel
theorem dX7_readTerm_7 : decode cX7_readTerm 7 = .ok (.iload_n 2, 1) := by decide +kernel
theorem dX7_readTerm_8 : decode cX7_readTerm 8 = .ok (.aload_n 0, 1) := by decide +kernel
theorem dX7_readTerm_9 : decode cX7_readTerm 9 = .ok (.getfield 34, 3) := by decide +kernel
theorem dX7_readTerm_12 : decode cX7_readTerm 12 = .ok (.getfield 138, 3) := by decide +kernel
theorem dX7_readTerm_15 : decode cX7_readTerm 15 = .ok (.if_icmp .ge 44, 3) := by decide +kernel
theorem dX7_readTerm_18 : decode cX7_readTerm 18 = .ok (.aload_n 0, 1) := by decide +kernel
theorem dX7_readTerm_19 : decode cX7_readTerm 19 = .ok (.invokevirtual 65, 3) := by decide +kernel
theorem dX7_readTerm_22 : decode cX7_readTerm 22 = .ok (.bipush 42, 2) := by decide +kernel
theorem dX7_readTerm_24 : decode cX7_readTerm 24 = .ok (.if_icmp .ne 35, 3) := by decide +kernel
theorem dX7_readTerm_27 : decode cX7_readTerm 27 = .ok (.aload_n 0, 1) := by decide +kernel
theorem dX7_readTerm_28 : decode cX7_readTerm 28 = .ok (.dup, 1) := by decide +kernel
theorem dX7_readTerm_29 : decode cX7_readTerm 29 = .ok (.getfield 49, 3) := by decide +kernel
theorem dX7_readTerm_32 : decode cX7_readTerm 32 = .ok (.iconst 1, 1) := by decide +kernel
theorem dX7_readTerm_33 : decode cX7_readTerm 33 = .ok (.iadd, 1) := by decide +kernel
theorem dX7_readTerm_34 : decode cX7_readTerm 34 = .ok (.putfield 49, 3) := by decide +kernel
theorem dX7_readTerm_37 : decode cX7_readTerm 37 = .ok (.aload_n 0, 1) := by decide +kernel
theorem dX7_readTerm_38 : decode cX7_readTerm 38 = .ok (.iload_n 1, 1) := by decide +kernel
theorem dX7_readTerm_39 : decode cX7_readTerm 39 = .ok (.invokevirtual 182, 3) := by decide +kernel
theorem dX7_readTerm_42 : decode cX7_readTerm 42 = .ok (.aload_n 0, 1) := by decide +kernel
theorem dX7_readTerm_43 : decode cX7_readTerm 43 = .ok (.getfield 39, 3) := by decide +kernel
theorem dX7_readTerm_46 : decode cX7_readTerm 46 = .ok (.iconst 5, 1) := by decide +kernel
theorem dX7_readTerm_47 : decode cX7_readTerm 47 = .ok (.iconst 0, 1) := by decide +kernel
theorem dX7_readTerm_48 : decode cX7_readTerm 48 = .ok (.iconst 0, 1) := by decide +kernel
theorem dX7_readTerm_49 : decode cX7_readTerm 49 = .ok (.invokevirtual 117, 3) := by decide +kernel
theorem dX7_readTerm_52 : decode cX7_readTerm 52 = .ok (.pop, 1) := by decide +kernel
theorem dX7_readTerm_53 : decode cX7_readTerm 53 = .ok (.iinc 2 1, 3) := by decide +kernel
theorem dX7_readTerm_56 : decode cX7_readTerm 56 = .ok (.goto (-49), 3) := by decide +kernel
theorem dX7_readTerm_59 : decode cX7_readTerm 59 = .ok (.return_, 1) := by decide +kernel
theorem dX7_readPart_0 : decode cX7_readPart 0 = .ok (.aload_n 0, 1) := by decide +kernel
theorem dX7_readPart_1 : decode cX7_readPart 1 = .ok (.invokevirtual 65, 3) := by decide +kernel
theorem dX7_readPart_4 : decode cX7_readPart 4 = .ok (.lookupswitch 139 #[(2, 44), (3, 78), (4, 131), (40, 112)], 44) := by decide +kernel
theorem dX7_readPart_48 : decode cX7_readPart 48 = .ok (.aload_n 0, 1) := by decide +kernel
theorem dX7_readPart_49 : decode cX7_readPart 49 = .ok (.getfield 39, 3) := by decide +kernel
theorem dX7_readPart_52 : decode cX7_readPart 52 = .ok (.iconst 1, 1) := by decide +kernel
theorem dX7_readPart_53 : decode cX7_readPart 53 = .ok (.aload_n 0, 1) := by decide +kernel
theorem dX7_readPart_54 : decode cX7_readPart 54 = .ok (.getfield 34, 3) := by decide +kernel
theorem dX7_readPart_57 : decode cX7_readPart 57 = .ok (.aload_n 0, 1) := by decide +kernel
theorem dX7_readPart_58 : decode cX7_readPart 58 = .ok (.getfield 49, 3) := by decide +kernel
theorem dX7_readPart_61 : decode cX7_readPart 61 = .ok (.invokevirtual 185, 3) := by decide +kernel
theorem dX7_readPart_64 : decode cX7_readPart 64 = .ok (.iconst 0, 1) := by decide +kernel
theorem dX7_readPart_65 : decode cX7_readPart 65 = .ok (.invokevirtual 117, 3) := by decide +kernel
theorem dX7_readPart_68 : decode cX7_readPart 68 = .ok (.pop, 1) := by decide +kernel
theorem dX7_readPart_69 : decode cX7_readPart 69 = .ok (.aload_n 0, 1) := by decide +kernel
theorem dX7_readPart_70 : decode cX7_readPart 70 = .ok (.dup, 1) := by decide +kernel
theorem dX7_readPart_71 : decode cX7_readPart 71 = .ok (.getfield 49, 3) := by decide +kernel
theorem dX7_readPart_74 : decode cX7_readPart 74 = .ok (.iconst 1, 1) := by decide +kernel
theorem dX7_readPart_75 : decode cX7_readPart 75 = .ok (.iadd, 1) := by decide +kernel
theorem dX7_readPart_76 : decode cX7_readPart 76 = .ok (.putfield 49, 3) := by decide +kernel
theorem dX7_readPart_79 : decode cX7_readPart 79 = .ok (.goto 69, 3) := by decide +kernel
theorem dX7_readPart_82 : decode cX7_readPart 82 = .ok (.aload_n 0, 1) := by decide +kernel
theorem dX7_readPart_83 : decode cX7_readPart 83 = .ok (.getfield 39, 3) := by decide +kernel
theorem dX7_readPart_86 : decode cX7_readPart 86 = .ok (.iconst 2, 1) := by decide +kernel
theorem dX7_readPart_87 : decode cX7_readPart 87 = .ok (.aload_n 0, 1) := by decide +kernel
theorem dX7_readPart_88 : decode cX7_readPart 88 = .ok (.getfield 34, 3) := by decide +kernel
theorem dX7_readPart_91 : decode cX7_readPart 91 = .ok (.aload_n 0, 1) := by decide +kernel
theorem dX7_readPart_92 : decode cX7_readPart 92 = .ok (.getfield 49, 3) := by decide +kernel
theorem dX7_readPart_95 : decode cX7_readPart 95 = .ok (.invokevirtual 139, 3) := by decide +kernel
theorem dX7_readPart_98 : decode cX7_readPart 98 = .ok (.iconst 0, 1) := by decide +kernel
theorem dX7_readPart_99 : decode cX7_readPart 99 = .ok (.invokevirtual 117, 3) := by decide +kernel
theorem dX7_readPart_102 : decode cX7_readPart 102 = .ok (.pop, 1) := by decide +kernel
theorem dX7_readPart_103 : decode cX7_readPart 103 = .ok (.aload_n 0, 1) := by decide +kernel
theorem dX7_readPart_104 : decode cX7_readPart 104 = .ok (.dup, 1) := by decide +kernel
theorem dX7_readPart_105 : decode cX7_readPart 105 = .ok (.getfield 49, 3) := by decide +kernel
theorem dX7_readPart_108 : decode cX7_readPart 108 = .ok (.iconst 1, 1) := by decide +kernel
theorem dX7_readPart_109 : decode cX7_readPart 109 = .ok (.iadd, 1) := by decide +kernel
theorem dX7_readPart_110 : decode cX7_readPart 110 = .ok (.putfield 49, 3) := by decide +kernel
theorem dX7_readPart_113 : decode cX7_readPart 113 = .ok (.goto 35, 3) := by decide +kernel
theorem dX7_readPart_116 : decode cX7_readPart 116 = .ok (.aload_n 0, 1) := by decide +kernel
theorem dX7_readPart_117 : decode cX7_readPart 117 = .ok (.iload_n 1, 1) := by decide +kernel
theorem dX7_readPart_118 : decode cX7_readPart 118 = .ok (.invokevirtual 188, 3) := by decide +kernel
theorem dX7_readPart_121 : decode cX7_readPart 121 = .ok (.aload_n 0, 1) := by decide +kernel
theorem dX7_readPart_122 : decode cX7_readPart 122 = .ok (.iload_n 1, 1) := by decide +kernel
theorem dX7_readPart_123 : decode cX7_readPart 123 = .ok (.invokevirtual 191, 3) := by decide +kernel
theorem dX7_readPart_126 : decode cX7_readPart 126 = .ok (.aload_n 0, 1) := by decide +kernel
theorem dX7_readPart_127 : decode cX7_readPart 127 = .ok (.bipush 41, 2) := by decide +kernel
theorem dX7_readPart_129 : decode cX7_readPart 129 = .ok (.invokevirtual 108, 3) := by decide +kernel
theorem dX7_readPart_132 : decode cX7_readPart 132 = .ok (.goto 16, 3) := by decide +kernel
theorem dX7_readPart_135 : decode cX7_readPart 135 = .ok (.aload_n 0, 1) := by decide +kernel
theorem dX7_readPart_136 : decode cX7_readPart 136 = .ok (.iload_n 1, 1) := by decide +kernel
theorem dX7_readPart_137 : decode cX7_readPart 137 = .ok (.invokevirtual 194, 3) := by decide +kernel
theorem dX7_readPart_140 : decode cX7_readPart 140 = .ok (.goto 8, 3) := by decide +kernel
theorem dX7_readPart_143 : decode cX7_readPart 143 = .ok (.aload_n 0, 1) := by decide +kernel
theorem dX7_readPart_144 : decode cX7_readPart 144 = .ok (.iconst 1, 1) := by decide +kernel
theorem dX7_readPart_145 : decode cX7_readPart 145 = .ok (.invokevirtual 79, 3) := by decide +kernel
theorem dX7_readPart_148 : decode cX7_readPart 148 = .ok (.return_, 1) := by decide +kernel
theorem dX7_readCall_0 : decode cX7_readCall 0 = .ok (.aload_n 0, 1) := by decide +kernel
theorem dX7_readCall_1 : decode cX7_readCall 1 = .ok (.aload_n 0, 1) := by decide +kernel
theorem dX7_readCall_2 : decode cX7_readCall 2 = .ok (.getfield 49, 3) := by decide +kernel
theorem dX7_readCall_5 : decode cX7_readCall 5 = .ok (.invokevirtual 197, 3) := by decide +kernel
theorem dX7_readCall_8 : decode cX7_readCall 8 = .ok (.istore_n 2, 1) := by decide +kernel
theorem dX7_readCall_9 : decode cX7_readCall 9 = .ok (.aload_n 0, 1) := by decide +kernel
theorem dX7_readCall_10 : decode cX7_readCall 10 = .ok (.dup, 1) := by decide +kernel
theorem dX7_readCall_11 : decode cX7_readCall 11 = .ok (.getfield 49, 3) := by decide +kernel
theorem dX7_readCall_14 : decode cX7_readCall 14 = .ok (.iconst 1, 1) := by decide +kernel
theorem dX7_readCall_15 : decode cX7_readCall 15 = .ok (.iadd, 1) := by decide +kernel
theorem dX7_readCall_16 : decode cX7_readCall 16 = .ok (.putfield 49, 3) := by decide +kernel
theorem dX7_readCall_19 : decode cX7_readCall 19 = .ok (.aload_n 0, 1) := by decide +kernel
theorem dX7_readCall_20 : decode cX7_readCall 20 = .ok (.iload_n 1, 1) := by decide +kernel
theorem dX7_readCall_21 : decode cX7_readCall 21 = .ok (.invokevirtual 188, 3) := by decide +kernel
theorem dX7_readCall_24 : decode cX7_readCall 24 = .ok (.aload_n 0, 1) := by decide +kernel
theorem dX7_readCall_25 : decode cX7_readCall 25 = .ok (.iload_n 1, 1) := by decide +kernel
theorem dX7_readCall_26 : decode cX7_readCall 26 = .ok (.invokevirtual 200, 3) := by decide +kernel
theorem dX7_readCall_29 : decode cX7_readCall 29 = .ok (.istore_n 3, 1) := by decide +kernel
theorem dX7_readCall_30 : decode cX7_readCall 30 = .ok (.aload_n 0, 1) := by decide +kernel
theorem dX7_readCall_31 : decode cX7_readCall 31 = .ok (.bipush 41, 2) := by decide +kernel
theorem dX7_readCall_33 : decode cX7_readCall 33 = .ok (.invokevirtual 108, 3) := by decide +kernel
theorem dX7_readCall_36 : decode cX7_readCall 36 = .ok (.aload_n 0, 1) := by decide +kernel
theorem dX7_readCall_37 : decode cX7_readCall 37 = .ok (.getfield 39, 3) := by decide +kernel
theorem dX7_readCall_40 : decode cX7_readCall 40 = .ok (.bipush 9, 2) := by decide +kernel
theorem dX7_readCall_42 : decode cX7_readCall 42 = .ok (.iconst 0, 1) := by decide +kernel
theorem dX7_readCall_43 : decode cX7_readCall 43 = .ok (.iconst 0, 1) := by decide +kernel
theorem dX7_readCall_44 : decode cX7_readCall 44 = .ok (.invokevirtual 117, 3) := by decide +kernel
theorem dX7_readCall_47 : decode cX7_readCall 47 = .ok (.istore 4, 2) := by decide +kernel
theorem dX7_readCall_49 : decode cX7_readCall 49 = .ok (.iload_n 2, 1) := by decide +kernel
theorem dX7_readCall_50 : decode cX7_readCall 50 = .ok (.ifCond .lt 26, 3) := by decide +kernel
theorem dX7_readCall_53 : decode cX7_readCall 53 = .ok (.iload_n 2, 1) := by decide +kernel
theorem dX7_readCall_54 : decode cX7_readCall 54 = .ok (.aload_n 0, 1) := by decide +kernel
theorem dX7_readCall_55 : decode cX7_readCall 55 = .ok (.getfield 53, 3) := by decide +kernel
theorem dX7_readCall_58 : decode cX7_readCall 58 = .ok (.if_icmp .ge 18, 3) := by decide +kernel
theorem dX7_readCall_61 : decode cX7_readCall 61 = .ok (.aload_n 0, 1) := by decide +kernel
theorem dX7_readCall_62 : decode cX7_readCall 62 = .ok (.getfield 15, 3) := by decide +kernel
theorem dX7_readCall_65 : decode cX7_readCall 65 = .ok (.iload_n 2, 1) := by decide +kernel
theorem dX7_readCall_66 : decode cX7_readCall 66 = .ok (.iload_n 3, 1) := by decide +kernel
theorem dX7_readCall_67 : decode cX7_readCall 67 = .ok (.iastore, 1) := by decide +kernel
theorem dX7_readCall_68 : decode cX7_readCall 68 = .ok (.aload_n 0, 1) := by decide +kernel
theorem dX7_readCall_69 : decode cX7_readCall 69 = .ok (.getfield 18, 3) := by decide +kernel
theorem dX7_readCall_72 : decode cX7_readCall 72 = .ok (.iload_n 2, 1) := by decide +kernel
theorem dX7_readCall_73 : decode cX7_readCall 73 = .ok (.iload 4, 2) := by decide +kernel
theorem dX7_readCall_75 : decode cX7_readCall 75 = .ok (.iastore, 1) := by decide +kernel
theorem dX7_readCall_76 : decode cX7_readCall 76 = .ok (.return_, 1) := by decide +kernel
theorem dX7_readSums_0 : decode cX7_readSums 0 = .ok (.aload_n 0, 1) := by decide +kernel
theorem dX7_readSums_1 : decode cX7_readSums 1 = .ok (.invokevirtual 65, 3) := by decide +kernel
theorem dX7_readSums_4 : decode cX7_readSums 4 = .ok (.bipush 41, 2) := by decide +kernel
theorem dX7_readSums_6 : decode cX7_readSums 6 = .ok (.if_icmp .ne 5, 3) := by decide +kernel
theorem dX7_readSums_9 : decode cX7_readSums 9 = .ok (.iconst 0, 1) := by decide +kernel
theorem dX7_readSums_10 : decode cX7_readSums 10 = .ok (.ireturn, 1) := by decide +kernel
theorem dX7_readSums_11 : decode cX7_readSums 11 = .ok (.aload_n 0, 1) := by decide +kernel
theorem dX7_readSums_12 : decode cX7_readSums 12 = .ok (.iload_n 1, 1) := by decide +kernel
theorem dX7_readSums_13 : decode cX7_readSums 13 = .ok (.invokevirtual 191, 3) := by decide +kernel
theorem dX7_readSums_16 : decode cX7_readSums 16 = .ok (.iconst 1, 1) := by decide +kernel
theorem dX7_readSums_17 : decode cX7_readSums 17 = .ok (.istore_n 2, 1) := by decide +kernel
theorem dX7_readSums_18 : decode cX7_readSums 18 = .ok (.iconst 0, 1) := by decide +kernel
theorem dX7_readSums_19 : decode cX7_readSums 19 = .ok (.istore_n 3, 1) := by decide +kernel
theorem dX7_readSums_20 : decode cX7_readSums 20 = .ok (.iload_n 3, 1) := by decide +kernel
theorem dX7_readSums_21 : decode cX7_readSums 21 = .ok (.aload_n 0, 1) := by decide +kernel
theorem dX7_readSums_22 : decode cX7_readSums 22 = .ok (.getfield 34, 3) := by decide +kernel
theorem dX7_readSums_25 : decode cX7_readSums 25 = .ok (.getfield 138, 3) := by decide +kernel
theorem dX7_readSums_28 : decode cX7_readSums 28 = .ok (.if_icmp .ge 63, 3) := by decide +kernel
theorem dX7_readSums_31 : decode cX7_readSums 31 = .ok (.aload_n 0, 1) := by decide +kernel
theorem dX7_readSums_32 : decode cX7_readSums 32 = .ok (.invokevirtual 65, 3) := by decide +kernel
theorem dX7_readSums_35 : decode cX7_readSums 35 = .ok (.bipush 44, 2) := by decide +kernel
theorem dX7_readSums_37 : decode cX7_readSums 37 = .ok (.if_icmp .ne 54, 3) := by decide +kernel
theorem dX7_readSums_40 : decode cX7_readSums 40 = .ok (.aload_n 0, 1) := by decide +kernel
theorem dX7_readSums_41 : decode cX7_readSums 41 = .ok (.dup, 1) := by decide +kernel
theorem dX7_readSums_42 : decode cX7_readSums 42 = .ok (.getfield 49, 3) := by decide +kernel
theorem dX7_readSums_45 : decode cX7_readSums 45 = .ok (.iconst 1, 1) := by decide +kernel
theorem dX7_readSums_46 : decode cX7_readSums 46 = .ok (.iadd, 1) := by decide +kernel
theorem dX7_readSums_47 : decode cX7_readSums 47 = .ok (.putfield 49, 3) := by decide +kernel
theorem dX7_readSums_50 : decode cX7_readSums 50 = .ok (.iload_n 2, 1) := by decide +kernel
theorem dX7_readSums_51 : decode cX7_readSums 51 = .ok (.iconst 3, 1) := by decide +kernel
theorem dX7_readSums_52 : decode cX7_readSums 52 = .ok (.if_icmp .lt 25, 3) := by decide +kernel
theorem dX7_readSums_55 : decode cX7_readSums 55 = .ok (.aload_n 0, 1) := by decide +kernel
theorem dX7_readSums_56 : decode cX7_readSums 56 = .ok (.aload_n 0, 1) := by decide +kernel
theorem dX7_readSums_57 : decode cX7_readSums 57 = .ok (.invokevirtual 65, 3) := by decide +kernel
theorem dX7_readSums_60 : decode cX7_readSums 60 = .ok (.invokestatic 203, 3) := by decide +kernel
theorem dX7_readSums_63 : decode cX7_readSums 63 = .ok (.ifCond .eq 7, 3) := by decide +kernel
theorem dX7_readSums_66 : decode cX7_readSums 66 = .ok (.iconst 3, 1) := by decide +kernel
theorem dX7_readSums_67 : decode cX7_readSums 67 = .ok (.goto 4, 3) := by decide +kernel
theorem dX7_readSums_70 : decode cX7_readSums 70 = .ok (.iconst 1, 1) := by decide +kernel
theorem dX7_readSums_71 : decode cX7_readSums 71 = .ok (.invokevirtual 79, 3) := by decide +kernel
theorem dX7_readSums_74 : decode cX7_readSums 74 = .ok (.goto 11, 3) := by decide +kernel
theorem dX7_readSums_77 : decode cX7_readSums 77 = .ok (.aload_n 0, 1) := by decide +kernel
theorem dX7_readSums_78 : decode cX7_readSums 78 = .ok (.iload_n 1, 1) := by decide +kernel
theorem dX7_readSums_79 : decode cX7_readSums 79 = .ok (.invokevirtual 191, 3) := by decide +kernel
theorem dX7_readSums_82 : decode cX7_readSums 82 = .ok (.iinc 2 1, 3) := by decide +kernel
theorem dX7_readSums_85 : decode cX7_readSums 85 = .ok (.iinc 3 1, 3) := by decide +kernel
theorem dX7_readSums_88 : decode cX7_readSums 88 = .ok (.goto (-68), 3) := by decide +kernel
theorem dX7_readSums_91 : decode cX7_readSums 91 = .ok (.iload_n 2, 1) := by decide +kernel
theorem dX7_readSums_92 : decode cX7_readSums 92 = .ok (.ireturn, 1) := by decide +kernel
theorem dX7_readSumWithin_0 : decode cX7_readSumWithin 0 = .ok (.iload_n 1, 1) := by decide +kernel
theorem dX7_readSumWithin_1 : decode cX7_readSumWithin 1 = .ok (.bipush 6, 2) := by decide +kernel
theorem dX7_readSumWithin_3 : decode cX7_readSumWithin 3 = .ok (.if_icmp .ge 10, 3) := by decide +kernel
theorem dX7_readSumWithin_6 : decode cX7_readSumWithin 6 = .ok (.aload_n 0, 1) := by decide +kernel
theorem dX7_readSumWithin_7 : decode cX7_readSumWithin 7 = .ok (.iload_n 1, 1) := by decide +kernel
theorem dX7_readSumWithin_8 : decode cX7_readSumWithin 8 = .ok (.iconst 1, 1) := by decide +kernel
theorem dX7_readSumWithin_9 : decode cX7_readSumWithin 9 = .ok (.iadd, 1) := by decide +kernel
theorem dX7_readSumWithin_10 : decode cX7_readSumWithin 10 = .ok (.invokevirtual 161, 3) := by decide +kernel
theorem dX7_readSumWithin_13 : decode cX7_readSumWithin 13 = .ok (.return_, 1) := by decide +kernel
theorem dX7_openBracket_0 : decode cX7_openBracket 0 = .ok (.aload_n 0, 1) := by decide +kernel
theorem dX7_openBracket_1 : decode cX7_openBracket 1 = .ok (.invokevirtual 65, 3) := by decide +kernel
theorem dX7_openBracket_4 : decode cX7_openBracket 4 = .ok (.bipush 40, 2) := by decide +kernel
theorem dX7_openBracket_6 : decode cX7_openBracket 6 = .ok (.if_icmp .eq 11, 3) := by decide +kernel
theorem dX7_openBracket_9 : decode cX7_openBracket 9 = .ok (.aload_n 0, 1) := by decide +kernel
theorem dX7_openBracket_10 : decode cX7_openBracket 10 = .ok (.iconst 1, 1) := by decide +kernel
theorem dX7_openBracket_11 : decode cX7_openBracket 11 = .ok (.invokevirtual 79, 3) := by decide +kernel
theorem dX7_openBracket_14 : decode cX7_openBracket 14 = .ok (.goto 27, 3) := by decide +kernel
theorem dX7_openBracket_17 : decode cX7_openBracket 17 = .ok (.iload_n 1, 1) := by decide +kernel
theorem dX7_openBracket_18 : decode cX7_openBracket 18 = .ok (.bipush 6, 2) := by decide +kernel
theorem dX7_openBracket_20 : decode cX7_openBracket 20 = .ok (.if_icmp .lt 11, 3) := by decide +kernel
theorem dX7_openBracket_23 : decode cX7_openBracket 23 = .ok (.aload_n 0, 1) := by decide +kernel
theorem dX7_openBracket_24 : decode cX7_openBracket 24 = .ok (.iconst 3, 1) := by decide +kernel
theorem dX7_openBracket_25 : decode cX7_openBracket 25 = .ok (.invokevirtual 79, 3) := by decide +kernel
theorem dX7_openBracket_28 : decode cX7_openBracket 28 = .ok (.goto 13, 3) := by decide +kernel
theorem dX7_openBracket_31 : decode cX7_openBracket 31 = .ok (.aload_n 0, 1) := by decide +kernel
theorem dX7_openBracket_32 : decode cX7_openBracket 32 = .ok (.dup, 1) := by decide +kernel
theorem dX7_openBracket_33 : decode cX7_openBracket 33 = .ok (.getfield 49, 3) := by decide +kernel
theorem dX7_openBracket_36 : decode cX7_openBracket 36 = .ok (.iconst 1, 1) := by decide +kernel
theorem dX7_openBracket_37 : decode cX7_openBracket 37 = .ok (.iadd, 1) := by decide +kernel
theorem dX7_openBracket_38 : decode cX7_openBracket 38 = .ok (.putfield 49, 3) := by decide +kernel
theorem dX7_openBracket_41 : decode cX7_openBracket 41 = .ok (.return_, 1) := by decide +kernel
theorem dX7_beginsSum_0 : decode cX7_beginsSum 0 = .ok (.iload_n 0, 1) := by decide +kernel
theorem dX7_beginsSum_1 : decode cX7_beginsSum 1 = .ok (.iconst 2, 1) := by decide +kernel
theorem dX7_beginsSum_2 : decode cX7_beginsSum 2 = .ok (.if_icmp .eq 19, 3) := by decide +kernel
theorem dX7_beginsSum_5 : decode cX7_beginsSum 5 = .ok (.iload_n 0, 1) := by decide +kernel
theorem dX7_beginsSum_6 : decode cX7_beginsSum 6 = .ok (.iconst 3, 1) := by decide +kernel
theorem dX7_beginsSum_7 : decode cX7_beginsSum 7 = .ok (.if_icmp .eq 14, 3) := by decide +kernel
theorem dX7_beginsSum_10 : decode cX7_beginsSum 10 = .ok (.iload_n 0, 1) := by decide +kernel
theorem dX7_beginsSum_11 : decode cX7_beginsSum 11 = .ok (.iconst 4, 1) := by decide +kernel
theorem dX7_beginsSum_12 : decode cX7_beginsSum 12 = .ok (.if_icmp .eq 9, 3) := by decide +kernel
theorem dX7_beginsSum_15 : decode cX7_beginsSum 15 = .ok (.iload_n 0, 1) := by decide +kernel
theorem dX7_beginsSum_16 : decode cX7_beginsSum 16 = .ok (.bipush 40, 2) := by decide +kernel
theorem dX7_beginsSum_18 : decode cX7_beginsSum 18 = .ok (.if_icmp .ne 7, 3) := by decide +kernel
theorem dX7_beginsSum_21 : decode cX7_beginsSum 21 = .ok (.iconst 1, 1) := by decide +kernel
theorem dX7_beginsSum_22 : decode cX7_beginsSum 22 = .ok (.goto 4, 3) := by decide +kernel
theorem dX7_beginsSum_25 : decode cX7_beginsSum 25 = .ok (.iconst 0, 1) := by decide +kernel
theorem dX7_beginsSum_26 : decode cX7_beginsSum 26 = .ok (.ireturn, 1) := by decide +kernel
theorem dX7_addCall_0 : decode cX7_addCall 0 = .ok (.aload_n 0, 1) := by decide +kernel
theorem dX7_addCall_1 : decode cX7_addCall 1 = .ok (.getfield 53, 3) := by decide +kernel
theorem dX7_addCall_4 : decode cX7_addCall 4 = .ok (.aload_n 0, 1) := by decide +kernel
theorem dX7_addCall_5 : decode cX7_addCall 5 = .ok (.getfield 11, 3) := by decide +kernel
theorem dX7_addCall_8 : decode cX7_addCall 8 = .ok (.arraylength, 1) := by decide +kernel
theorem dX7_addCall_9 : decode cX7_addCall 9 = .ok (.if_icmp .lt 5, 3) := by decide +kernel
theorem dX7_addCall_12 : decode cX7_addCall 12 = .ok (.iconst (-1), 1) := by decide +kernel
theorem dX7_addCall_13 : decode cX7_addCall 13 = .ok (.ireturn, 1) := by decide +kernel
theorem dX7_addCall_14 : decode cX7_addCall 14 = .ok (.aload_n 0, 1) := by decide +kernel
theorem dX7_addCall_15 : decode cX7_addCall 15 = .ok (.getfield 11, 3) := by decide +kernel
theorem dX7_addCall_18 : decode cX7_addCall 18 = .ok (.aload_n 0, 1) := by decide +kernel
theorem dX7_addCall_19 : decode cX7_addCall 19 = .ok (.getfield 53, 3) := by decide +kernel
theorem dX7_addCall_22 : decode cX7_addCall 22 = .ok (.iload_n 1, 1) := by decide +kernel
theorem dX7_addCall_23 : decode cX7_addCall 23 = .ok (.iastore, 1) := by decide +kernel
theorem dX7_addCall_24 : decode cX7_addCall 24 = .ok (.aload_n 0, 1) := by decide +kernel
theorem dX7_addCall_25 : decode cX7_addCall 25 = .ok (.getfield 21, 3) := by decide +kernel
theorem dX7_addCall_28 : decode cX7_addCall 28 = .ok (.aload_n 0, 1) := by decide +kernel
theorem dX7_addCall_29 : decode cX7_addCall 29 = .ok (.getfield 53, 3) := by decide +kernel
theorem dX7_addCall_32 : decode cX7_addCall 32 = .ok (.aload_n 0, 1) := by decide +kernel
theorem dX7_addCall_33 : decode cX7_addCall 33 = .ok (.getfield 24, 3) := by decide +kernel
theorem dX7_addCall_36 : decode cX7_addCall 36 = .ok (.getfield 83, 3) := by decide +kernel
theorem dX7_addCall_39 : decode cX7_addCall 39 = .ok (.iastore, 1) := by decide +kernel
theorem dX7_addCall_40 : decode cX7_addCall 40 = .ok (.aload_n 0, 1) := by decide +kernel
theorem dX7_addCall_41 : decode cX7_addCall 41 = .ok (.dup, 1) := by decide +kernel
theorem dX7_addCall_42 : decode cX7_addCall 42 = .ok (.getfield 53, 3) := by decide +kernel
theorem dX7_addCall_45 : decode cX7_addCall 45 = .ok (.iconst 1, 1) := by decide +kernel
theorem dX7_addCall_46 : decode cX7_addCall 46 = .ok (.iadd, 1) := by decide +kernel
theorem dX7_addCall_47 : decode cX7_addCall 47 = .ok (.putfield 53, 3) := by decide +kernel
theorem dX7_addCall_50 : decode cX7_addCall 50 = .ok (.aload_n 0, 1) := by decide +kernel
theorem dX7_addCall_51 : decode cX7_addCall 51 = .ok (.getfield 53, 3) := by decide +kernel
theorem dX7_addCall_54 : decode cX7_addCall 54 = .ok (.iconst 1, 1) := by decide +kernel
theorem dX7_addCall_55 : decode cX7_addCall 55 = .ok (.isub, 1) := by decide +kernel
theorem dX7_addCall_56 : decode cX7_addCall 56 = .ok (.ireturn, 1) := by decide +kernel
theorem dX7_joinCalls_0 : decode cX7_joinCalls 0 = .ok (.iconst 0, 1) := by decide +kernel
theorem dX7_joinCalls_1 : decode cX7_joinCalls 1 = .ok (.istore_n 1, 1) := by decide +kernel
theorem dX7_joinCalls_2 : decode cX7_joinCalls 2 = .ok (.iload_n 1, 1) := by decide +kernel
theorem dX7_joinCalls_3 : decode cX7_joinCalls 3 = .ok (.aload_n 0, 1) := by decide +kernel
theorem dX7_joinCalls_4 : decode cX7_joinCalls 4 = .ok (.getfield 53, 3) := by decide +kernel
theorem dX7_joinCalls_7 : decode cX7_joinCalls 7 = .ok (.if_icmp .ge 133, 3) := by decide +kernel
theorem dX7_joinCalls_10 : decode cX7_joinCalls 10 = .ok (.iload_n 1, 1) := by decide +kernel
theorem dX7_joinCalls_11 : decode cX7_joinCalls 11 = .ok (.aload_n 0, 1) := by decide +kernel
theorem dX7_joinCalls_12 : decode cX7_joinCalls 12 = .ok (.getfield 11, 3) := by decide +kernel
theorem dX7_joinCalls_15 : decode cX7_joinCalls 15 = .ok (.arraylength, 1) := by decide +kernel
theorem dX7_joinCalls_16 : decode cX7_joinCalls 16 = .ok (.if_icmp .ge 124, 3) := by decide +kernel
theorem dX7_joinCalls_19 : decode cX7_joinCalls 19 = .ok (.aload_n 0, 1) := by decide +kernel
theorem dX7_joinCalls_20 : decode cX7_joinCalls 20 = .ok (.getfield 24, 3) := by decide +kernel
theorem dX7_joinCalls_23 : decode cX7_joinCalls 23 = .ok (.aload_n 0, 1) := by decide +kernel
theorem dX7_joinCalls_24 : decode cX7_joinCalls 24 = .ok (.getfield 34, 3) := by decide +kernel
theorem dX7_joinCalls_27 : decode cX7_joinCalls 27 = .ok (.aload_n 0, 1) := by decide +kernel
theorem dX7_joinCalls_28 : decode cX7_joinCalls 28 = .ok (.getfield 11, 3) := by decide +kernel
theorem dX7_joinCalls_31 : decode cX7_joinCalls 31 = .ok (.iload_n 1, 1) := by decide +kernel
theorem dX7_joinCalls_32 : decode cX7_joinCalls 32 = .ok (.iaload, 1) := by decide +kernel
theorem dX7_joinCalls_33 : decode cX7_joinCalls 33 = .ok (.invokevirtual 128, 3) := by decide +kernel
theorem dX7_joinCalls_36 : decode cX7_joinCalls 36 = .ok (.istore_n 2, 1) := by decide +kernel
theorem dX7_joinCalls_37 : decode cX7_joinCalls 37 = .ok (.iload_n 2, 1) := by decide +kernel
theorem dX7_joinCalls_38 : decode cX7_joinCalls 38 = .ok (.iconst (-1), 1) := by decide +kernel
theorem dX7_joinCalls_39 : decode cX7_joinCalls 39 = .ok (.if_icmp .eq 24, 3) := by decide +kernel
theorem dX7_joinCalls_42 : decode cX7_joinCalls 42 = .ok (.aload_n 0, 1) := by decide +kernel
theorem dX7_joinCalls_43 : decode cX7_joinCalls 43 = .ok (.getfield 24, 3) := by decide +kernel
theorem dX7_joinCalls_46 : decode cX7_joinCalls 46 = .ok (.getfield 86, 3) := by decide +kernel
theorem dX7_joinCalls_49 : decode cX7_joinCalls 49 = .ok (.iload_n 2, 1) := by decide +kernel
theorem dX7_joinCalls_50 : decode cX7_joinCalls 50 = .ok (.aaload, 1) := by decide +kernel
theorem dX7_joinCalls_51 : decode cX7_joinCalls 51 = .ok (.getfield 146, 3) := by decide +kernel
theorem dX7_joinCalls_54 : decode cX7_joinCalls 54 = .ok (.aload_n 0, 1) := by decide +kernel
theorem dX7_joinCalls_55 : decode cX7_joinCalls 55 = .ok (.getfield 15, 3) := by decide +kernel
theorem dX7_joinCalls_58 : decode cX7_joinCalls 58 = .ok (.iload_n 1, 1) := by decide +kernel
theorem dX7_joinCalls_59 : decode cX7_joinCalls 59 = .ok (.iaload, 1) := by decide +kernel
theorem dX7_joinCalls_60 : decode cX7_joinCalls 60 = .ok (.if_icmp .eq 19, 3) := by decide +kernel
theorem dX7_joinCalls_63 : decode cX7_joinCalls 63 = .ok (.aload_n 0, 1) := by decide +kernel
theorem dX7_joinCalls_64 : decode cX7_joinCalls 64 = .ok (.aload_n 0, 1) := by decide +kernel
theorem dX7_joinCalls_65 : decode cX7_joinCalls 65 = .ok (.getfield 11, 3) := by decide +kernel
theorem dX7_joinCalls_68 : decode cX7_joinCalls 68 = .ok (.iload_n 1, 1) := by decide +kernel
theorem dX7_joinCalls_69 : decode cX7_joinCalls 69 = .ok (.iaload, 1) := by decide +kernel
theorem dX7_joinCalls_70 : decode cX7_joinCalls 70 = .ok (.putfield 49, 3) := by decide +kernel
theorem dX7_joinCalls_73 : decode cX7_joinCalls 73 = .ok (.aload_n 0, 1) := by decide +kernel
theorem dX7_joinCalls_74 : decode cX7_joinCalls 74 = .ok (.iconst 4, 1) := by decide +kernel
theorem dX7_joinCalls_75 : decode cX7_joinCalls 75 = .ok (.invokevirtual 79, 3) := by decide +kernel
theorem dX7_joinCalls_78 : decode cX7_joinCalls 78 = .ok (.return_, 1) := by decide +kernel
theorem dX7_joinCalls_79 : decode cX7_joinCalls 79 = .ok (.aload_n 0, 1) := by decide +kernel
theorem dX7_joinCalls_80 : decode cX7_joinCalls 80 = .ok (.getfield 39, 3) := by decide +kernel
theorem dX7_joinCalls_83 : decode cX7_joinCalls 83 = .ok (.aload_n 0, 1) := by decide +kernel
theorem dX7_joinCalls_84 : decode cX7_joinCalls 84 = .ok (.getfield 18, 3) := by decide +kernel
theorem dX7_joinCalls_87 : decode cX7_joinCalls 87 = .ok (.iload_n 1, 1) := by decide +kernel
theorem dX7_joinCalls_88 : decode cX7_joinCalls 88 = .ok (.iaload, 1) := by decide +kernel
theorem dX7_joinCalls_89 : decode cX7_joinCalls 89 = .ok (.iload_n 2, 1) := by decide +kernel
theorem dX7_joinCalls_90 : decode cX7_joinCalls 90 = .ok (.invokevirtual 176, 3) := by decide +kernel
theorem dX7_joinCalls_93 : decode cX7_joinCalls 93 = .ok (.aload_n 0, 1) := by decide +kernel
theorem dX7_joinCalls_94 : decode cX7_joinCalls 94 = .ok (.getfield 24, 3) := by decide +kernel
theorem dX7_joinCalls_97 : decode cX7_joinCalls 97 = .ok (.aload_n 0, 1) := by decide +kernel
theorem dX7_joinCalls_98 : decode cX7_joinCalls 98 = .ok (.getfield 21, 3) := by decide +kernel
theorem dX7_joinCalls_101 : decode cX7_joinCalls 101 = .ok (.iload_n 1, 1) := by decide +kernel
theorem dX7_joinCalls_102 : decode cX7_joinCalls 102 = .ok (.iaload, 1) := by decide +kernel
theorem dX7_joinCalls_103 : decode cX7_joinCalls 103 = .ok (.invokevirtual 206, 3) := by decide +kernel
theorem dX7_joinCalls_106 : decode cX7_joinCalls 106 = .ok (.ifCond .eq 28, 3) := by decide +kernel
theorem dX7_joinCalls_109 : decode cX7_joinCalls 109 = .ok (.aload_n 0, 1) := by decide +kernel
theorem dX7_joinCalls_110 : decode cX7_joinCalls 110 = .ok (.getfield 24, 3) := by decide +kernel
theorem dX7_joinCalls_113 : decode cX7_joinCalls 113 = .ok (.getfield 86, 3) := by decide +kernel
theorem dX7_joinCalls_116 : decode cX7_joinCalls 116 = .ok (.aload_n 0, 1) := by decide +kernel
theorem dX7_joinCalls_117 : decode cX7_joinCalls 117 = .ok (.getfield 21, 3) := by decide +kernel
theorem dX7_joinCalls_120 : decode cX7_joinCalls 120 = .ok (.iload_n 1, 1) := by decide +kernel
theorem dX7_joinCalls_121 : decode cX7_joinCalls 121 = .ok (.iaload, 1) := by decide +kernel
theorem dX7_joinCalls_122 : decode cX7_joinCalls 122 = .ok (.aaload, 1) := by decide +kernel
theorem dX7_joinCalls_123 : decode cX7_joinCalls 123 = .ok (.dup, 1) := by decide +kernel
theorem dX7_joinCalls_124 : decode cX7_joinCalls 124 = .ok (.getfield 209, 3) := by decide +kernel
theorem dX7_joinCalls_127 : decode cX7_joinCalls 127 = .ok (.iconst 1, 1) := by decide +kernel
theorem dX7_joinCalls_128 : decode cX7_joinCalls 128 = .ok (.iload_n 2, 1) := by decide +kernel
theorem dX7_joinCalls_129 : decode cX7_joinCalls 129 = .ok (.ishl, 1) := by decide +kernel
theorem dX7_joinCalls_130 : decode cX7_joinCalls 130 = .ok (.ior, 1) := by decide +kernel
theorem dX7_joinCalls_131 : decode cX7_joinCalls 131 = .ok (.putfield 209, 3) := by decide +kernel
theorem dX7_joinCalls_134 : decode cX7_joinCalls 134 = .ok (.iinc 1 1, 3) := by decide +kernel
theorem dX7_joinCalls_137 : decode cX7_joinCalls 137 = .ok (.goto (-135), 3) := by decide +kernel
theorem dX7_joinCalls_140 : decode cX7_joinCalls 140 = .ok (.return_, 1) := by decide +kernel
theorem dX7_kind_0 : decode cX7_kind 0 = .ok (.aload_n 0, 1) := by decide +kernel
theorem dX7_kind_1 : decode cX7_kind 1 = .ok (.getfield 49, 3) := by decide +kernel
theorem dX7_kind_4 : decode cX7_kind 4 = .ok (.ifCond .lt 36, 3) := by decide +kernel
theorem dX7_kind_7 : decode cX7_kind 7 = .ok (.aload_n 0, 1) := by decide +kernel
theorem dX7_kind_8 : decode cX7_kind 8 = .ok (.getfield 49, 3) := by decide +kernel
theorem dX7_kind_11 : decode cX7_kind 11 = .ok (.aload_n 0, 1) := by decide +kernel
theorem dX7_kind_12 : decode cX7_kind 12 = .ok (.getfield 34, 3) := by decide +kernel
theorem dX7_kind_15 : decode cX7_kind 15 = .ok (.getfield 138, 3) := by decide +kernel
theorem dX7_kind_18 : decode cX7_kind 18 = .ok (.if_icmp .ge 22, 3) := by decide +kernel
theorem dX7_kind_21 : decode cX7_kind 21 = .ok (.aload_n 0, 1) := by decide +kernel
theorem dX7_kind_22 : decode cX7_kind 22 = .ok (.getfield 49, 3) := by decide +kernel
theorem dX7_kind_25 : decode cX7_kind 25 = .ok (.aload_n 0, 1) := by decide +kernel
theorem dX7_kind_26 : decode cX7_kind 26 = .ok (.getfield 34, 3) := by decide +kernel
theorem dX7_kind_29 : decode cX7_kind 29 = .ok (.getfield 212, 3) := by decide +kernel
theorem dX7_kind_32 : decode cX7_kind 32 = .ok (.arraylength, 1) := by decide +kernel
theorem dX7_kind_33 : decode cX7_kind 33 = .ok (.if_icmp .ge 7, 3) := by decide +kernel
theorem dX7_kind_36 : decode cX7_kind 36 = .ok (.iconst 1, 1) := by decide +kernel
theorem dX7_kind_37 : decode cX7_kind 37 = .ok (.goto 4, 3) := by decide +kernel
theorem dX7_kind_40 : decode cX7_kind 40 = .ok (.iconst 0, 1) := by decide +kernel
theorem dX7_kind_41 : decode cX7_kind 41 = .ok (.istore_n 1, 1) := by decide +kernel
theorem dX7_kind_42 : decode cX7_kind 42 = .ok (.iload_n 1, 1) := by decide +kernel
theorem dX7_kind_43 : decode cX7_kind 43 = .ok (.ifCond .eq 18, 3) := by decide +kernel
theorem dX7_kind_46 : decode cX7_kind 46 = .ok (.aload_n 0, 1) := by decide +kernel
theorem dX7_kind_47 : decode cX7_kind 47 = .ok (.getfield 34, 3) := by decide +kernel
theorem dX7_kind_50 : decode cX7_kind 50 = .ok (.getfield 212, 3) := by decide +kernel
theorem dX7_kind_53 : decode cX7_kind 53 = .ok (.aload_n 0, 1) := by decide +kernel
theorem dX7_kind_54 : decode cX7_kind 54 = .ok (.getfield 49, 3) := by decide +kernel
theorem dX7_kind_57 : decode cX7_kind 57 = .ok (.iaload, 1) := by decide +kernel
theorem dX7_kind_58 : decode cX7_kind 58 = .ok (.goto 4, 3) := by decide +kernel
theorem dX7_kind_61 : decode cX7_kind 61 = .ok (.iconst 0, 1) := by decide +kernel
theorem dX7_kind_62 : decode cX7_kind 62 = .ok (.ireturn, 1) := by decide +kernel
theorem dX7_take_0 : decode cX7_take 0 = .ok (.aload_n 0, 1) := by decide +kernel
theorem dX7_take_1 : decode cX7_take 1 = .ok (.invokevirtual 65, 3) := by decide +kernel
theorem dX7_take_4 : decode cX7_take 4 = .ok (.iload_n 1, 1) := by decide +kernel
theorem dX7_take_5 : decode cX7_take 5 = .ok (.if_icmp .ne 16, 3) := by decide +kernel
theorem dX7_take_8 : decode cX7_take 8 = .ok (.aload_n 0, 1) := by decide +kernel
theorem dX7_take_9 : decode cX7_take 9 = .ok (.dup, 1) := by decide +kernel
theorem dX7_take_10 : decode cX7_take 10 = .ok (.getfield 49, 3) := by decide +kernel
theorem dX7_take_13 : decode cX7_take 13 = .ok (.iconst 1, 1) := by decide +kernel
theorem dX7_take_14 : decode cX7_take 14 = .ok (.iadd, 1) := by decide +kernel
theorem dX7_take_15 : decode cX7_take 15 = .ok (.putfield 49, 3) := by decide +kernel
theorem dX7_take_18 : decode cX7_take 18 = .ok (.goto 8, 3) := by decide +kernel
theorem dX7_take_21 : decode cX7_take 21 = .ok (.aload_n 0, 1) := by decide +kernel
theorem dX7_take_22 : decode cX7_take 22 = .ok (.iconst 1, 1) := by decide +kernel
theorem dX7_take_23 : decode cX7_take 23 = .ok (.invokevirtual 79, 3) := by decide +kernel
theorem dX7_take_26 : decode cX7_take 26 = .ok (.return_, 1) := by decide +kernel
theorem dX7_fail_0 : decode cX7_fail 0 = .ok (.aload_n 0, 1) := by decide +kernel
theorem dX7_fail_1 : decode cX7_fail 1 = .ok (.getfield 56, 3) := by decide +kernel
theorem dX7_fail_4 : decode cX7_fail 4 = .ok (.ifCond .ne 16, 3) := by decide +kernel
theorem dX7_fail_7 : decode cX7_fail 7 = .ok (.aload_n 0, 1) := by decide +kernel
theorem dX7_fail_8 : decode cX7_fail 8 = .ok (.iload_n 1, 1) := by decide +kernel
theorem dX7_fail_9 : decode cX7_fail 9 = .ok (.putfield 56, 3) := by decide +kernel
theorem dX7_fail_12 : decode cX7_fail 12 = .ok (.aload_n 0, 1) := by decide +kernel
theorem dX7_fail_13 : decode cX7_fail 13 = .ok (.aload_n 0, 1) := by decide +kernel
theorem dX7_fail_14 : decode cX7_fail 14 = .ok (.getfield 49, 3) := by decide +kernel
theorem dX7_fail_17 : decode cX7_fail 17 = .ok (.putfield 59, 3) := by decide +kernel
theorem dX7_fail_20 : decode cX7_fail 20 = .ok (.aload_n 0, 1) := by decide +kernel
theorem dX7_fail_21 : decode cX7_fail 21 = .ok (.aload_n 0, 1) := by decide +kernel
theorem dX7_fail_22 : decode cX7_fail 22 = .ok (.getfield 34, 3) := by decide +kernel
theorem dX7_fail_25 : decode cX7_fail 25 = .ok (.getfield 138, 3) := by decide +kernel
theorem dX7_fail_28 : decode cX7_fail 28 = .ok (.iconst 1, 1) := by decide +kernel
theorem dX7_fail_29 : decode cX7_fail 29 = .ok (.isub, 1) := by decide +kernel
theorem dX7_fail_30 : decode cX7_fail 30 = .ok (.putfield 49, 3) := by decide +kernel
theorem dX7_fail_33 : decode cX7_fail 33 = .ok (.return_, 1) := by decide +kernel
theorem dX8_init_0 : decode cX8_init 0 = .ok (.aload_n 0, 1) := by decide +kernel
theorem dX8_init_1 : decode cX8_init 1 = .ok (.invokespecial 3, 3) := by decide +kernel
theorem dX8_init_4 : decode cX8_init 4 = .ok (.aload_n 0, 1) := by decide +kernel
theorem dX8_init_5 : decode cX8_init 5 = .ok (.sipush 600, 3) := by decide +kernel
theorem dX8_init_8 : decode cX8_init 8 = .ok (.newarray .byte, 2) := by decide +kernel
theorem dX8_init_10 : decode cX8_init 10 = .ok (.putfield 9, 3) := by decide +kernel
theorem dX8_init_13 : decode cX8_init 13 = .ok (.aload_n 0, 1) := by decide +kernel
theorem dX8_init_14 : decode cX8_init 14 = .ok (.sipush 601, 3) := by decide +kernel
theorem dX8_init_17 : decode cX8_init 17 = .ok (.newarray .int, 2) := by decide +kernel
theorem dX8_init_19 : decode cX8_init 19 = .ok (.putfield 15, 3) := by decide +kernel
theorem dX8_init_22 : decode cX8_init 22 = .ok (.aload_n 0, 1) := by decide +kernel
theorem dX8_init_23 : decode cX8_init 23 = .ok (.sipush 601, 3) := by decide +kernel
theorem dX8_init_26 : decode cX8_init 26 = .ok (.newarray .int, 2) := by decide +kernel
theorem dX8_init_28 : decode cX8_init 28 = .ok (.putfield 19, 3) := by decide +kernel
theorem dX8_init_31 : decode cX8_init 31 = .ok (.aload_n 0, 1) := by decide +kernel
theorem dX8_init_32 : decode cX8_init 32 = .ok (.sipush 601, 3) := by decide +kernel
theorem dX8_init_35 : decode cX8_init 35 = .ok (.newarray .int, 2) := by decide +kernel
theorem dX8_init_37 : decode cX8_init 37 = .ok (.putfield 22, 3) := by decide +kernel
theorem dX8_init_40 : decode cX8_init 40 = .ok (.return_, 1) := by decide +kernel
theorem dX8_cut_0 : decode cX8_cut 0 = .ok (.aload_n 0, 1) := by decide +kernel
theorem dX8_cut_1 : decode cX8_cut 1 = .ok (.iconst 0, 1) := by decide +kernel
theorem dX8_cut_2 : decode cX8_cut 2 = .ok (.iload_n 2, 1) := by decide +kernel
theorem dX8_cut_3 : decode cX8_cut 3 = .ok (.aload_n 1, 1) := by decide +kernel
theorem dX8_cut_4 : decode cX8_cut 4 = .ok (.arraylength, 1) := by decide +kernel
theorem dX8_cut_5 : decode cX8_cut 5 = .ok (.aload_n 0, 1) := by decide +kernel
theorem dX8_cut_6 : decode cX8_cut 6 = .ok (.getfield 9, 3) := by decide +kernel
theorem dX8_cut_9 : decode cX8_cut 9 = .ok (.arraylength, 1) := by decide +kernel
theorem dX8_cut_10 : decode cX8_cut 10 = .ok (.invokestatic 25, 3) := by decide +kernel
theorem dX8_cut_13 : decode cX8_cut 13 = .ok (.invokestatic 25, 3) := by decide +kernel
theorem dX8_cut_16 : decode cX8_cut 16 = .ok (.invokestatic 31, 3) := by decide +kernel
theorem dX8_cut_19 : decode cX8_cut 19 = .ok (.putfield 34, 3) := by decide +kernel
theorem dX8_cut_22 : decode cX8_cut 22 = .ok (.aload_n 1, 1) := by decide +kernel
theorem dX8_cut_23 : decode cX8_cut 23 = .ok (.iconst 0, 1) := by decide +kernel
theorem dX8_cut_24 : decode cX8_cut 24 = .ok (.aload_n 0, 1) := by decide +kernel
theorem dX8_cut_25 : decode cX8_cut 25 = .ok (.getfield 9, 3) := by decide +kernel
theorem dX8_cut_28 : decode cX8_cut 28 = .ok (.iconst 0, 1) := by decide +kernel
theorem dX8_cut_29 : decode cX8_cut 29 = .ok (.aload_n 0, 1) := by decide +kernel
theorem dX8_cut_30 : decode cX8_cut 30 = .ok (.getfield 34, 3) := by decide +kernel
theorem dX8_cut_33 : decode cX8_cut 33 = .ok (.invokestatic 38, 3) := by decide +kernel
theorem dX8_cut_36 : decode cX8_cut 36 = .ok (.aload_n 0, 1) := by decide +kernel
theorem dX8_cut_37 : decode cX8_cut 37 = .ok (.iconst 0, 1) := by decide +kernel
theorem dX8_cut_38 : decode cX8_cut 38 = .ok (.putfield 44, 3) := by decide +kernel
theorem dX8_cut_41 : decode cX8_cut 41 = .ok (.iconst 0, 1) := by decide +kernel
theorem dX8_cut_42 : decode cX8_cut 42 = .ok (.istore_n 3, 1) := by decide +kernel
theorem dX8_cut_43 : decode cX8_cut 43 = .ok (.iload_n 3, 1) := by decide +kernel
theorem dX8_cut_44 : decode cX8_cut 44 = .ok (.aload_n 0, 1) := by decide +kernel
theorem dX8_cut_45 : decode cX8_cut 45 = .ok (.getfield 34, 3) := by decide +kernel
theorem dX8_cut_48 : decode cX8_cut 48 = .ok (.if_icmp .ge 75, 3) := by decide +kernel
theorem dX8_cut_51 : decode cX8_cut 51 = .ok (.aload_n 0, 1) := by decide +kernel
theorem dX8_cut_52 : decode cX8_cut 52 = .ok (.getfield 9, 3) := by decide +kernel
theorem dX8_cut_55 : decode cX8_cut 55 = .ok (.iload_n 3, 1) := by decide +kernel
theorem dX8_cut_56 : decode cX8_cut 56 = .ok (.baload, 1) := by decide +kernel
theorem dX8_cut_57 : decode cX8_cut 57 = .ok (.bipush 32, 2) := by decide +kernel
theorem dX8_cut_59 : decode cX8_cut 59 = .ok (.if_icmp .eq 58, 3) := by decide +kernel
theorem dX8_cut_62 : decode cX8_cut 62 = .ok (.aload_n 0, 1) := by decide +kernel
theorem dX8_cut_63 : decode cX8_cut 63 = .ok (.getfield 9, 3) := by decide +kernel
theorem dX8_cut_66 : decode cX8_cut 66 = .ok (.iload_n 3, 1) := by decide +kernel
theorem dX8_cut_67 : decode cX8_cut 67 = .ok (.baload, 1) := by decide +kernel
theorem dX8_cut_68 : decode cX8_cut 68 = .ok (.bipush 10, 2) := by decide +kernel
theorem dX8_cut_70 : decode cX8_cut 70 = .ok (.if_icmp .ne 6, 3) := by decide +kernel
theorem dX8_cut_73 : decode cX8_cut 73 = .ok (.goto 44, 3) := by decide +kernel
theorem dX8_cut_76 : decode cX8_cut 76 = .ok (.aload_n 0, 1) := by decide +kernel
theorem dX8_cut_77 : decode cX8_cut 77 = .ok (.iload_n 3, 1) := by decide +kernel
theorem dX8_cut_78 : decode cX8_cut 78 = .ok (.invokevirtual 47, 3) := by decide +kernel
theorem dX8_cut_81 : decode cX8_cut 81 = .ok (.istore 4, 2) := by decide +kernel
theorem dX8_cut_83 : decode cX8_cut 83 = .ok (.iload 4, 2) := by decide +kernel
theorem dX8_cut_85 : decode cX8_cut 85 = .ok (.ifCond .ne 11, 3) := by decide +kernel
theorem dX8_cut_88 : decode cX8_cut 88 = .ok (.aload_n 0, 1) := by decide +kernel
theorem dX8_cut_89 : decode cX8_cut 89 = .ok (.iconst 1, 1) := by decide +kernel
theorem dX8_cut_90 : decode cX8_cut 90 = .ok (.iload_n 3, 1) := by decide +kernel
theorem dX8_cut_91 : decode cX8_cut 91 = .ok (.iconst 0, 1) := by decide +kernel
theorem dX8_cut_92 : decode cX8_cut 92 = .ok (.invokevirtual 51, 3) := by decide +kernel
theorem dX8_cut_95 : decode cX8_cut 95 = .ok (.return_, 1) := by decide +kernel
theorem dX8_cut_96 : decode cX8_cut 96 = .ok (.aload_n 0, 1) := by decide +kernel
theorem dX8_cut_97 : decode cX8_cut 97 = .ok (.aload_n 0, 1) := by decide +kernel
theorem dX8_cut_98 : decode cX8_cut 98 = .ok (.iload_n 3, 1) := by decide +kernel
theorem dX8_cut_99 : decode cX8_cut 99 = .ok (.iload 4, 2) := by decide +kernel
theorem dX8_cut_101 : decode cX8_cut 101 = .ok (.invokevirtual 55, 3) := by decide +kernel
theorem dX8_cut_104 : decode cX8_cut 104 = .ok (.iload_n 3, 1) := by decide +kernel
theorem dX8_cut_105 : decode cX8_cut 105 = .ok (.iload 4, 2) := by decide +kernel
theorem dX8_cut_107 : decode cX8_cut 107 = .ok (.invokevirtual 51, 3) := by decide +kernel
theorem dX8_cut_110 : decode cX8_cut 110 = .ok (.iload_n 3, 1) := by decide +kernel
theorem dX8_cut_111 : decode cX8_cut 111 = .ok (.iload 4, 2) := by decide +kernel
theorem dX8_cut_113 : decode cX8_cut 113 = .ok (.iconst 1, 1) := by decide +kernel
theorem dX8_cut_114 : decode cX8_cut 114 = .ok (.isub, 1) := by decide +kernel
theorem dX8_cut_115 : decode cX8_cut 115 = .ok (.iadd, 1) := by decide +kernel
theorem dX8_cut_116 : decode cX8_cut 116 = .ok (.istore_n 3, 1) := by decide +kernel
theorem dX8_cut_117 : decode cX8_cut 117 = .ok (.iinc 3 1, 3) := by decide +kernel
theorem dX8_cut_120 : decode cX8_cut 120 = .ok (.goto (-77), 3) := by decide +kernel
theorem dX8_cut_123 : decode cX8_cut 123 = .ok (.aload_n 0, 1) := by decide +kernel
theorem dX8_cut_124 : decode cX8_cut 124 = .ok (.iconst 0, 1) := by decide +kernel
theorem dX8_cut_125 : decode cX8_cut 125 = .ok (.aload_n 0, 1) := by decide +kernel
theorem dX8_cut_126 : decode cX8_cut 126 = .ok (.getfield 34, 3) := by decide +kernel
theorem dX8_cut_129 : decode cX8_cut 129 = .ok (.iconst 0, 1) := by decide +kernel
theorem dX8_cut_130 : decode cX8_cut 130 = .ok (.invokevirtual 51, 3) := by decide +kernel
theorem dX8_cut_133 : decode cX8_cut 133 = .ok (.return_, 1) := by decide +kernel
theorem dX8_placeOf_0 : decode cX8_placeOf 0 = .ok (.aload_n 0, 1) := by decide +kernel
theorem dX8_placeOf_1 : decode cX8_placeOf 1 = .ok (.iload_n 1, 1) := by decide +kernel
theorem dX8_placeOf_2 : decode cX8_placeOf 2 = .ok (.invokevirtual 58, 3) := by decide +kernel
theorem dX8_placeOf_5 : decode cX8_placeOf 5 = .ok (.ifCond .eq 12, 3) := by decide +kernel
theorem dX8_placeOf_8 : decode cX8_placeOf 8 = .ok (.aload_n 0, 1) := by decide +kernel
theorem dX8_placeOf_9 : decode cX8_placeOf 9 = .ok (.getfield 19, 3) := by decide +kernel
theorem dX8_placeOf_12 : decode cX8_placeOf 12 = .ok (.iload_n 1, 1) := by decide +kernel
theorem dX8_placeOf_13 : decode cX8_placeOf 13 = .ok (.iaload, 1) := by decide +kernel
theorem dX8_placeOf_14 : decode cX8_placeOf 14 = .ok (.goto 7, 3) := by decide +kernel
theorem dX8_placeOf_17 : decode cX8_placeOf 17 = .ok (.aload_n 0, 1) := by decide +kernel
theorem dX8_placeOf_18 : decode cX8_placeOf 18 = .ok (.getfield 34, 3) := by decide +kernel
theorem dX8_placeOf_21 : decode cX8_placeOf 21 = .ok (.ireturn, 1) := by decide +kernel
theorem dX8_byteOf_0 : decode cX8_byteOf 0 = .ok (.aload_n 0, 1) := by decide +kernel
theorem dX8_byteOf_1 : decode cX8_byteOf 1 = .ok (.iload_n 1, 1) := by decide +kernel
theorem dX8_byteOf_2 : decode cX8_byteOf 2 = .ok (.invokevirtual 58, 3) := by decide +kernel
theorem dX8_byteOf_5 : decode cX8_byteOf 5 = .ok (.ifCond .eq 32, 3) := by decide +kernel
theorem dX8_byteOf_8 : decode cX8_byteOf 8 = .ok (.iload_n 2, 1) := by decide +kernel
theorem dX8_byteOf_9 : decode cX8_byteOf 9 = .ok (.ifCond .lt 28, 3) := by decide +kernel
theorem dX8_byteOf_12 : decode cX8_byteOf 12 = .ok (.iload_n 2, 1) := by decide +kernel
theorem dX8_byteOf_13 : decode cX8_byteOf 13 = .ok (.aload_n 0, 1) := by decide +kernel
theorem dX8_byteOf_14 : decode cX8_byteOf 14 = .ok (.getfield 22, 3) := by decide +kernel
theorem dX8_byteOf_17 : decode cX8_byteOf 17 = .ok (.iload_n 1, 1) := by decide +kernel
theorem dX8_byteOf_18 : decode cX8_byteOf 18 = .ok (.iaload, 1) := by decide +kernel
theorem dX8_byteOf_19 : decode cX8_byteOf 19 = .ok (.if_icmp .ge 18, 3) := by decide +kernel
theorem dX8_byteOf_22 : decode cX8_byteOf 22 = .ok (.aload_n 0, 1) := by decide +kernel
theorem dX8_byteOf_23 : decode cX8_byteOf 23 = .ok (.aload_n 0, 1) := by decide +kernel
theorem dX8_byteOf_24 : decode cX8_byteOf 24 = .ok (.getfield 19, 3) := by decide +kernel
theorem dX8_byteOf_27 : decode cX8_byteOf 27 = .ok (.iload_n 1, 1) := by decide +kernel
theorem dX8_byteOf_28 : decode cX8_byteOf 28 = .ok (.iaload, 1) := by decide +kernel
theorem dX8_byteOf_29 : decode cX8_byteOf 29 = .ok (.iload_n 2, 1) := by decide +kernel
theorem dX8_byteOf_30 : decode cX8_byteOf 30 = .ok (.iadd, 1) := by decide +kernel
theorem dX8_byteOf_31 : decode cX8_byteOf 31 = .ok (.invokevirtual 62, 3) := by decide +kernel
theorem dX8_byteOf_34 : decode cX8_byteOf 34 = .ok (.goto 4, 3) := by decide +kernel
theorem dX8_byteOf_37 : decode cX8_byteOf 37 = .ok (.iconst (-1), 1) := by decide +kernel
theorem dX8_byteOf_38 : decode cX8_byteOf 38 = .ok (.ireturn, 1) := by decide +kernel
theorem dX8_letterOf_0 : decode cX8_letterOf 0 = .ok (.aload_n 0, 1) := by decide +kernel
theorem dX8_letterOf_1 : decode cX8_letterOf 1 = .ok (.iload_n 1, 1) := by decide +kernel
theorem dX8_letterOf_2 : decode cX8_letterOf 2 = .ok (.invokevirtual 58, 3) := by decide +kernel
theorem dX8_letterOf_5 : decode cX8_letterOf 5 = .ok (.ifCond .eq 23, 3) := by decide +kernel
theorem dX8_letterOf_8 : decode cX8_letterOf 8 = .ok (.iconst 0, 1) := by decide +kernel
theorem dX8_letterOf_9 : decode cX8_letterOf 9 = .ok (.aload_n 0, 1) := by decide +kernel
theorem dX8_letterOf_10 : decode cX8_letterOf 10 = .ok (.aload_n 0, 1) := by decide +kernel
theorem dX8_letterOf_11 : decode cX8_letterOf 11 = .ok (.getfield 19, 3) := by decide +kernel
theorem dX8_letterOf_14 : decode cX8_letterOf 14 = .ok (.iload_n 1, 1) := by decide +kernel
theorem dX8_letterOf_15 : decode cX8_letterOf 15 = .ok (.iaload, 1) := by decide +kernel
theorem dX8_letterOf_16 : decode cX8_letterOf 16 = .ok (.invokevirtual 62, 3) := by decide +kernel
theorem dX8_letterOf_19 : decode cX8_letterOf 19 = .ok (.bipush 97, 2) := by decide +kernel
theorem dX8_letterOf_21 : decode cX8_letterOf 21 = .ok (.isub, 1) := by decide +kernel
theorem dX8_letterOf_22 : decode cX8_letterOf 22 = .ok (.invokestatic 31, 3) := by decide +kernel
theorem dX8_letterOf_25 : decode cX8_letterOf 25 = .ok (.goto 4, 3) := by decide +kernel
theorem dX8_letterOf_28 : decode cX8_letterOf 28 = .ok (.iconst 0, 1) := by decide +kernel
theorem dX8_letterOf_29 : decode cX8_letterOf 29 = .ok (.ireturn, 1) := by decide +kernel
theorem dX8_valueOf_0 : decode cX8_valueOf 0 = .ok (.iconst 0, 1) := by decide +kernel
theorem dX8_valueOf_1 : decode cX8_valueOf 1 = .ok (.istore_n 2, 1) := by decide +kernel
theorem dX8_valueOf_2 : decode cX8_valueOf 2 = .ok (.iconst 0, 1) := by decide +kernel
theorem dX8_valueOf_3 : decode cX8_valueOf 3 = .ok (.istore_n 3, 1) := by decide +kernel
theorem dX8_valueOf_4 : decode cX8_valueOf 4 = .ok (.aload_n 0, 1) := by decide +kernel
theorem dX8_valueOf_5 : decode cX8_valueOf 5 = .ok (.iload_n 1, 1) := by decide +kernel
theorem dX8_valueOf_6 : decode cX8_valueOf 6 = .ok (.invokevirtual 58, 3) := by decide +kernel
theorem dX8_valueOf_9 : decode cX8_valueOf 9 = .ok (.ifCond .eq 40, 3) := by decide +kernel
theorem dX8_valueOf_12 : decode cX8_valueOf 12 = .ok (.iload_n 3, 1) := by decide +kernel
theorem dX8_valueOf_13 : decode cX8_valueOf 13 = .ok (.aload_n 0, 1) := by decide +kernel
theorem dX8_valueOf_14 : decode cX8_valueOf 14 = .ok (.getfield 22, 3) := by decide +kernel
theorem dX8_valueOf_17 : decode cX8_valueOf 17 = .ok (.iload_n 1, 1) := by decide +kernel
theorem dX8_valueOf_18 : decode cX8_valueOf 18 = .ok (.iaload, 1) := by decide +kernel
theorem dX8_valueOf_19 : decode cX8_valueOf 19 = .ok (.if_icmp .ge 30, 3) := by decide +kernel
theorem dX8_valueOf_22 : decode cX8_valueOf 22 = .ok (.iload_n 2, 1) := by decide +kernel
theorem dX8_valueOf_23 : decode cX8_valueOf 23 = .ok (.bipush 10, 2) := by decide +kernel
theorem dX8_valueOf_25 : decode cX8_valueOf 25 = .ok (.imul, 1) := by decide +kernel
theorem dX8_valueOf_26 : decode cX8_valueOf 26 = .ok (.aload_n 0, 1) := by decide +kernel
theorem dX8_valueOf_27 : decode cX8_valueOf 27 = .ok (.aload_n 0, 1) := by decide +kernel
theorem dX8_valueOf_28 : decode cX8_valueOf 28 = .ok (.getfield 19, 3) := by decide +kernel
theorem dX8_valueOf_31 : decode cX8_valueOf 31 = .ok (.iload_n 1, 1) := by decide +kernel
theorem dX8_valueOf_32 : decode cX8_valueOf 32 = .ok (.iaload, 1) := by decide +kernel
theorem dX8_valueOf_33 : decode cX8_valueOf 33 = .ok (.iload_n 3, 1) := by decide +kernel
theorem dX8_valueOf_34 : decode cX8_valueOf 34 = .ok (.iadd, 1) := by decide +kernel
theorem dX8_valueOf_35 : decode cX8_valueOf 35 = .ok (.invokevirtual 62, 3) := by decide +kernel
theorem dX8_valueOf_38 : decode cX8_valueOf 38 = .ok (.iadd, 1) := by decide +kernel
theorem dX8_valueOf_39 : decode cX8_valueOf 39 = .ok (.bipush 48, 2) := by decide +kernel
theorem dX8_valueOf_41 : decode cX8_valueOf 41 = .ok (.isub, 1) := by decide +kernel
theorem dX8_valueOf_42 : decode cX8_valueOf 42 = .ok (.istore_n 2, 1) := by decide +kernel
theorem dX8_valueOf_43 : decode cX8_valueOf 43 = .ok (.iinc 3 1, 3) := by decide +kernel
theorem dX8_valueOf_46 : decode cX8_valueOf 46 = .ok (.goto (-42), 3) := by decide +kernel
theorem dX8_valueOf_49 : decode cX8_valueOf 49 = .ok (.iload_n 2, 1) := by decide +kernel
theorem dX8_valueOf_50 : decode cX8_valueOf 50 = .ok (.ireturn, 1) := by decide +kernel
theorem dX8_isLike_0 : decode cX8_isLike 0 = .ok (.aload_n 0, 1) := by decide +kernel
theorem dX8_isLike_1 : decode cX8_isLike 1 = .ok (.iload_n 1, 1) := by decide +kernel
theorem dX8_isLike_2 : decode cX8_isLike 2 = .ok (.invokevirtual 58, 3) := by decide +kernel
theorem dX8_isLike_5 : decode cX8_isLike 5 = .ok (.ifCond .eq 26, 3) := by decide +kernel
theorem dX8_isLike_8 : decode cX8_isLike 8 = .ok (.aload_n 2, 1) := by decide +kernel
theorem dX8_isLike_9 : decode cX8_isLike 9 = .ok (.iload_n 3, 1) := by decide +kernel
theorem dX8_isLike_10 : decode cX8_isLike 10 = .ok (.invokevirtual 58, 3) := by decide +kernel
theorem dX8_isLike_13 : decode cX8_isLike 13 = .ok (.ifCond .eq 18, 3) := by decide +kernel
theorem dX8_isLike_16 : decode cX8_isLike 16 = .ok (.aload_n 0, 1) := by decide +kernel
theorem dX8_isLike_17 : decode cX8_isLike 17 = .ok (.getfield 22, 3) := by decide +kernel
theorem dX8_isLike_20 : decode cX8_isLike 20 = .ok (.iload_n 1, 1) := by decide +kernel
theorem dX8_isLike_21 : decode cX8_isLike 21 = .ok (.iaload, 1) := by decide +kernel
theorem dX8_isLike_22 : decode cX8_isLike 22 = .ok (.aload_n 2, 1) := by decide +kernel
theorem dX8_isLike_23 : decode cX8_isLike 23 = .ok (.getfield 22, 3) := by decide +kernel
theorem dX8_isLike_26 : decode cX8_isLike 26 = .ok (.iload_n 3, 1) := by decide +kernel
theorem dX8_isLike_27 : decode cX8_isLike 27 = .ok (.iaload, 1) := by decide +kernel
theorem dX8_isLike_28 : decode cX8_isLike 28 = .ok (.if_icmp .eq 5, 3) := by decide +kernel
theorem dX8_isLike_31 : decode cX8_isLike 31 = .ok (.iconst 0, 1) := by decide +kernel
theorem dX8_isLike_32 : decode cX8_isLike 32 = .ok (.ireturn, 1) := by decide +kernel
theorem dX8_isLike_33 : decode cX8_isLike 33 = .ok (.iconst 0, 1) := by decide +kernel
theorem dX8_isLike_34 : decode cX8_isLike 34 = .ok (.istore 4, 2) := by decide +kernel
theorem dX8_isLike_36 : decode cX8_isLike 36 = .ok (.iload 4, 2) := by decide +kernel
theorem dX8_isLike_38 : decode cX8_isLike 38 = .ok (.aload_n 0, 1) := by decide +kernel
theorem dX8_isLike_39 : decode cX8_isLike 39 = .ok (.getfield 22, 3) := by decide +kernel
theorem dX8_isLike_42 : decode cX8_isLike 42 = .ok (.iload_n 1, 1) := by decide +kernel
theorem dX8_isLike_43 : decode cX8_isLike 43 = .ok (.iaload, 1) := by decide +kernel
theorem dX8_isLike_44 : decode cX8_isLike 44 = .ok (.if_icmp .ge 28, 3) := by decide +kernel
theorem dX8_isLike_47 : decode cX8_isLike 47 = .ok (.aload_n 0, 1) := by decide +kernel
theorem dX8_isLike_48 : decode cX8_isLike 48 = .ok (.iload_n 1, 1) := by decide +kernel
theorem dX8_isLike_49 : decode cX8_isLike 49 = .ok (.iload 4, 2) := by decide +kernel
theorem dX8_isLike_51 : decode cX8_isLike 51 = .ok (.invokevirtual 65, 3) := by decide +kernel
theorem dX8_isLike_54 : decode cX8_isLike 54 = .ok (.aload_n 2, 1) := by decide +kernel
theorem dX8_isLike_55 : decode cX8_isLike 55 = .ok (.iload_n 3, 1) := by decide +kernel
theorem dX8_isLike_56 : decode cX8_isLike 56 = .ok (.iload 4, 2) := by decide +kernel
theorem dX8_isLike_58 : decode cX8_isLike 58 = .ok (.invokevirtual 65, 3) := by decide +kernel
theorem dX8_isLike_61 : decode cX8_isLike 61 = .ok (.if_icmp .eq 5, 3) := by decide +kernel
theorem dX8_isLike_64 : decode cX8_isLike 64 = .ok (.iconst 0, 1) := by decide +kernel
theorem dX8_isLike_65 : decode cX8_isLike 65 = .ok (.ireturn, 1) := by decide +kernel
theorem dX8_isLike_66 : decode cX8_isLike 66 = .ok (.iinc 4 1, 3) := by decide +kernel
theorem dX8_isLike_69 : decode cX8_isLike 69 = .ok (.goto (-33), 3) := by decide +kernel
theorem dX8_isLike_72 : decode cX8_isLike 72 = .ok (.iconst 1, 1) := by decide +kernel
theorem dX8_isLike_73 : decode cX8_isLike 73 = .ok (.ireturn, 1) := by decide +kernel
theorem dX8_has_0 : decode cX8_has 0 = .ok (.iload_n 1, 1) := by decide +kernel
theorem dX8_has_1 : decode cX8_has 1 = .ok (.ifCond .lt 24, 3) := by decide +kernel
theorem dX8_has_4 : decode cX8_has 4 = .ok (.iload_n 1, 1) := by decide +kernel
theorem dX8_has_5 : decode cX8_has 5 = .ok (.aload_n 0, 1) := by decide +kernel
theorem dX8_has_6 : decode cX8_has 6 = .ok (.getfield 44, 3) := by decide +kernel
theorem dX8_has_9 : decode cX8_has 9 = .ok (.if_icmp .ge 16, 3) := by decide +kernel
theorem dX8_has_12 : decode cX8_has 12 = .ok (.iload_n 1, 1) := by decide +kernel
theorem dX8_has_13 : decode cX8_has 13 = .ok (.aload_n 0, 1) := by decide +kernel
theorem dX8_has_14 : decode cX8_has 14 = .ok (.getfield 15, 3) := by decide +kernel
theorem dX8_has_17 : decode cX8_has 17 = .ok (.arraylength, 1) := by decide +kernel
theorem dX8_has_18 : decode cX8_has 18 = .ok (.if_icmp .ge 7, 3) := by decide +kernel
theorem dX8_has_21 : decode cX8_has 21 = .ok (.iconst 1, 1) := by decide +kernel
theorem dX8_has_22 : decode cX8_has 22 = .ok (.goto 4, 3) := by decide +kernel
theorem dX8_has_25 : decode cX8_has 25 = .ok (.iconst 0, 1) := by decide +kernel
theorem dX8_has_26 : decode cX8_has 26 = .ok (.ireturn, 1) := by decide +kernel
theorem dX8_textAt_0 : decode cX8_textAt 0 = .ok (.iload_n 1, 1) := by decide +kernel
theorem dX8_textAt_1 : decode cX8_textAt 1 = .ok (.ifCond .lt 29, 3) := by decide +kernel
theorem dX8_textAt_4 : decode cX8_textAt 4 = .ok (.iload_n 1, 1) := by decide +kernel
theorem dX8_textAt_5 : decode cX8_textAt 5 = .ok (.aload_n 0, 1) := by decide +kernel
theorem dX8_textAt_6 : decode cX8_textAt 6 = .ok (.getfield 34, 3) := by decide +kernel
theorem dX8_textAt_9 : decode cX8_textAt 9 = .ok (.if_icmp .ge 21, 3) := by decide +kernel
theorem dX8_textAt_12 : decode cX8_textAt 12 = .ok (.iload_n 1, 1) := by decide +kernel
theorem dX8_textAt_13 : decode cX8_textAt 13 = .ok (.aload_n 0, 1) := by decide +kernel
theorem dX8_textAt_14 : decode cX8_textAt 14 = .ok (.getfield 9, 3) := by decide +kernel
theorem dX8_textAt_17 : decode cX8_textAt 17 = .ok (.arraylength, 1) := by decide +kernel
theorem dX8_textAt_18 : decode cX8_textAt 18 = .ok (.if_icmp .ge 12, 3) := by decide +kernel
theorem dX8_textAt_21 : decode cX8_textAt 21 = .ok (.aload_n 0, 1) := by decide +kernel
theorem dX8_textAt_22 : decode cX8_textAt 22 = .ok (.getfield 9, 3) := by decide +kernel
theorem dX8_textAt_25 : decode cX8_textAt 25 = .ok (.iload_n 1, 1) := by decide +kernel
theorem dX8_textAt_26 : decode cX8_textAt 26 = .ok (.baload, 1) := by decide +kernel
theorem dX8_textAt_27 : decode cX8_textAt 27 = .ok (.goto 4, 3) := by decide +kernel
theorem dX8_textAt_30 : decode cX8_textAt 30 = .ok (.iconst (-1), 1) := by decide +kernel
theorem dX8_textAt_31 : decode cX8_textAt 31 = .ok (.ireturn, 1) := by decide +kernel
theorem dX8_add_0 : decode cX8_add 0 = .ok (.aload_n 0, 1) := by decide +kernel
theorem dX8_add_1 : decode cX8_add 1 = .ok (.getfield 44, 3) := by decide +kernel
theorem dX8_add_4 : decode cX8_add 4 = .ok (.aload_n 0, 1) := by decide +kernel
theorem dX8_add_5 : decode cX8_add 5 = .ok (.getfield 15, 3) := by decide +kernel
theorem dX8_add_8 : decode cX8_add 8 = .ok (.arraylength, 1) := by decide +kernel
theorem dX8_add_9 : decode cX8_add 9 = .ok (.if_icmp .ge 43, 3) := by decide +kernel
theorem dX8_add_12 : decode cX8_add 12 = .ok (.aload_n 0, 1) := by decide +kernel
theorem dX8_add_13 : decode cX8_add 13 = .ok (.getfield 15, 3) := by decide +kernel
theorem dX8_add_16 : decode cX8_add 16 = .ok (.aload_n 0, 1) := by decide +kernel
theorem dX8_add_17 : decode cX8_add 17 = .ok (.getfield 44, 3) := by decide +kernel
theorem dX8_add_20 : decode cX8_add 20 = .ok (.iload_n 1, 1) := by decide +kernel
theorem dX8_add_21 : decode cX8_add 21 = .ok (.iastore, 1) := by decide +kernel
theorem dX8_add_22 : decode cX8_add 22 = .ok (.aload_n 0, 1) := by decide +kernel
theorem dX8_add_23 : decode cX8_add 23 = .ok (.getfield 19, 3) := by decide +kernel
theorem dX8_add_26 : decode cX8_add 26 = .ok (.aload_n 0, 1) := by decide +kernel
theorem dX8_add_27 : decode cX8_add 27 = .ok (.getfield 44, 3) := by decide +kernel
theorem dX8_add_30 : decode cX8_add 30 = .ok (.iload_n 2, 1) := by decide +kernel
theorem dX8_add_31 : decode cX8_add 31 = .ok (.iastore, 1) := by decide +kernel
theorem dX8_add_32 : decode cX8_add 32 = .ok (.aload_n 0, 1) := by decide +kernel
theorem dX8_add_33 : decode cX8_add 33 = .ok (.getfield 22, 3) := by decide +kernel
theorem dX8_add_36 : decode cX8_add 36 = .ok (.aload_n 0, 1) := by decide +kernel
theorem dX8_add_37 : decode cX8_add 37 = .ok (.getfield 44, 3) := by decide +kernel
theorem dX8_add_40 : decode cX8_add 40 = .ok (.iload_n 3, 1) := by decide +kernel
theorem dX8_add_41 : decode cX8_add 41 = .ok (.iastore, 1) := by decide +kernel
theorem dX8_add_42 : decode cX8_add 42 = .ok (.aload_n 0, 1) := by decide +kernel
theorem dX8_add_43 : decode cX8_add 43 = .ok (.dup, 1) := by decide +kernel
theorem dX8_add_44 : decode cX8_add 44 = .ok (.getfield 44, 3) := by decide +kernel
theorem dX8_add_47 : decode cX8_add 47 = .ok (.iconst 1, 1) := by decide +kernel
theorem dX8_add_48 : decode cX8_add 48 = .ok (.iadd, 1) := by decide +kernel
theorem dX8_add_49 : decode cX8_add 49 = .ok (.putfield 44, 3) := by decide +kernel
theorem dX8_add_52 : decode cX8_add 52 = .ok (.return_, 1) := by decide +kernel
theorem dX8_widthAt_0 : decode cX8_widthAt 0 = .ok (.aload_n 0, 1) := by decide +kernel
theorem dX8_widthAt_1 : decode cX8_widthAt 1 = .ok (.iload_n 1, 1) := by decide +kernel
theorem dX8_widthAt_2 : decode cX8_widthAt 2 = .ok (.invokevirtual 68, 3) := by decide +kernel
theorem dX8_widthAt_5 : decode cX8_widthAt 5 = .ok (.ifCond .eq 45, 3) := by decide +kernel
theorem dX8_widthAt_8 : decode cX8_widthAt 8 = .ok (.iload_n 1, 1) := by decide +kernel
theorem dX8_widthAt_9 : decode cX8_widthAt 9 = .ok (.iconst 1, 1) := by decide +kernel
theorem dX8_widthAt_10 : decode cX8_widthAt 10 = .ok (.iadd, 1) := by decide +kernel
theorem dX8_widthAt_11 : decode cX8_widthAt 11 = .ok (.istore_n 2, 1) := by decide +kernel
theorem dX8_widthAt_12 : decode cX8_widthAt 12 = .ok (.iload_n 2, 1) := by decide +kernel
theorem dX8_widthAt_13 : decode cX8_widthAt 13 = .ok (.aload_n 0, 1) := by decide +kernel
theorem dX8_widthAt_14 : decode cX8_widthAt 14 = .ok (.getfield 34, 3) := by decide +kernel
theorem dX8_widthAt_17 : decode cX8_widthAt 17 = .ok (.if_icmp .ge 17, 3) := by decide +kernel
theorem dX8_widthAt_20 : decode cX8_widthAt 20 = .ok (.aload_n 0, 1) := by decide +kernel
theorem dX8_widthAt_21 : decode cX8_widthAt 21 = .ok (.iload_n 2, 1) := by decide +kernel
theorem dX8_widthAt_22 : decode cX8_widthAt 22 = .ok (.invokevirtual 68, 3) := by decide +kernel
theorem dX8_widthAt_25 : decode cX8_widthAt 25 = .ok (.ifCond .eq 9, 3) := by decide +kernel
theorem dX8_widthAt_28 : decode cX8_widthAt 28 = .ok (.iinc 2 1, 3) := by decide +kernel
theorem dX8_widthAt_31 : decode cX8_widthAt 31 = .ok (.goto (-19), 3) := by decide +kernel
theorem dX8_widthAt_34 : decode cX8_widthAt 34 = .ok (.iload_n 2, 1) := by decide +kernel
theorem dX8_widthAt_35 : decode cX8_widthAt 35 = .ok (.iload_n 1, 1) := by decide +kernel
theorem dX8_widthAt_36 : decode cX8_widthAt 36 = .ok (.isub, 1) := by decide +kernel
theorem dX8_widthAt_37 : decode cX8_widthAt 37 = .ok (.bipush 8, 2) := by decide +kernel
theorem dX8_widthAt_39 : decode cX8_widthAt 39 = .ok (.if_icmp .gt 9, 3) := by decide +kernel
theorem dX8_widthAt_42 : decode cX8_widthAt 42 = .ok (.iload_n 2, 1) := by decide +kernel
theorem dX8_widthAt_43 : decode cX8_widthAt 43 = .ok (.iload_n 1, 1) := by decide +kernel
theorem dX8_widthAt_44 : decode cX8_widthAt 44 = .ok (.isub, 1) := by decide +kernel
theorem dX8_widthAt_45 : decode cX8_widthAt 45 = .ok (.goto 4, 3) := by decide +kernel
theorem dX8_widthAt_48 : decode cX8_widthAt 48 = .ok (.iconst 0, 1) := by decide +kernel
theorem dX8_widthAt_49 : decode cX8_widthAt 49 = .ok (.ireturn, 1) := by decide +kernel
theorem dX8_widthAt_50 : decode cX8_widthAt 50 = .ok (.aload_n 0, 1) := by decide +kernel
theorem dX8_widthAt_51 : decode cX8_widthAt 51 = .ok (.iload_n 1, 1) := by decide +kernel
theorem dX8_widthAt_52 : decode cX8_widthAt 52 = .ok (.invokevirtual 71, 3) := by decide +kernel
theorem dX8_widthAt_55 : decode cX8_widthAt 55 = .ok (.ifCond .eq 44, 3) := by decide +kernel
theorem dX8_widthAt_58 : decode cX8_widthAt 58 = .ok (.iload_n 1, 1) := by decide +kernel
theorem dX8_widthAt_59 : decode cX8_widthAt 59 = .ok (.iconst 1, 1) := by decide +kernel
theorem dX8_widthAt_60 : decode cX8_widthAt 60 = .ok (.iadd, 1) := by decide +kernel
theorem dX8_widthAt_61 : decode cX8_widthAt 61 = .ok (.istore_n 2, 1) := by decide +kernel
theorem dX8_widthAt_62 : decode cX8_widthAt 62 = .ok (.iload_n 2, 1) := by decide +kernel
theorem dX8_widthAt_63 : decode cX8_widthAt 63 = .ok (.aload_n 0, 1) := by decide +kernel
theorem dX8_widthAt_64 : decode cX8_widthAt 64 = .ok (.getfield 34, 3) := by decide +kernel
theorem dX8_widthAt_67 : decode cX8_widthAt 67 = .ok (.if_icmp .ge 17, 3) := by decide +kernel
theorem dX8_widthAt_70 : decode cX8_widthAt 70 = .ok (.aload_n 0, 1) := by decide +kernel
theorem dX8_widthAt_71 : decode cX8_widthAt 71 = .ok (.iload_n 2, 1) := by decide +kernel
theorem dX8_widthAt_72 : decode cX8_widthAt 72 = .ok (.invokevirtual 71, 3) := by decide +kernel
theorem dX8_widthAt_75 : decode cX8_widthAt 75 = .ok (.ifCond .eq 9, 3) := by decide +kernel
theorem dX8_widthAt_78 : decode cX8_widthAt 78 = .ok (.iinc 2 1, 3) := by decide +kernel
theorem dX8_widthAt_81 : decode cX8_widthAt 81 = .ok (.goto (-19), 3) := by decide +kernel
theorem dX8_widthAt_84 : decode cX8_widthAt 84 = .ok (.iload_n 2, 1) := by decide +kernel
theorem dX8_widthAt_85 : decode cX8_widthAt 85 = .ok (.iload_n 1, 1) := by decide +kernel
theorem dX8_widthAt_86 : decode cX8_widthAt 86 = .ok (.isub, 1) := by decide +kernel
theorem dX8_widthAt_87 : decode cX8_widthAt 87 = .ok (.iconst 5, 1) := by decide +kernel
theorem dX8_widthAt_88 : decode cX8_widthAt 88 = .ok (.if_icmp .gt 9, 3) := by decide +kernel
theorem dX8_widthAt_91 : decode cX8_widthAt 91 = .ok (.iload_n 2, 1) := by decide +kernel
theorem dX8_widthAt_92 : decode cX8_widthAt 92 = .ok (.iload_n 1, 1) := by decide +kernel
theorem dX8_widthAt_93 : decode cX8_widthAt 93 = .ok (.isub, 1) := by decide +kernel
theorem dX8_widthAt_94 : decode cX8_widthAt 94 = .ok (.goto 4, 3) := by decide +kernel
theorem dX8_widthAt_97 : decode cX8_widthAt 97 = .ok (.iconst 0, 1) := by decide +kernel
theorem dX8_widthAt_98 : decode cX8_widthAt 98 = .ok (.ireturn, 1) := by decide +kernel
theorem dX8_widthAt_99 : decode cX8_widthAt 99 = .ok (.aload_n 0, 1) := by decide +kernel
theorem dX8_widthAt_100 : decode cX8_widthAt 100 = .ok (.iload_n 1, 1) := by decide +kernel
theorem dX8_widthAt_101 : decode cX8_widthAt 101 = .ok (.invokevirtual 62, 3) := by decide +kernel
theorem dX8_widthAt_104 : decode cX8_widthAt 104 = .ok (.invokestatic 74, 3) := by decide +kernel
theorem dX8_widthAt_107 : decode cX8_widthAt 107 = .ok (.ifCond .eq 7, 3) := by decide +kernel
theorem dX8_widthAt_110 : decode cX8_widthAt 110 = .ok (.iconst 1, 1) := by decide +kernel
theorem dX8_widthAt_111 : decode cX8_widthAt 111 = .ok (.goto 4, 3) := by decide +kernel
theorem dX8_widthAt_114 : decode cX8_widthAt 114 = .ok (.iconst 0, 1) := by decide +kernel
theorem dX8_widthAt_115 : decode cX8_widthAt 115 = .ok (.ireturn, 1) := by decide +kernel
theorem dX8_isLetter_0 : decode cX8_isLetter 0 = .ok (.aload_n 0, 1) := by decide +kernel
theorem dX8_isLetter_1 : decode cX8_isLetter 1 = .ok (.iload_n 1, 1) := by decide +kernel
theorem dX8_isLetter_2 : decode cX8_isLetter 2 = .ok (.invokevirtual 62, 3) := by decide +kernel
theorem dX8_isLetter_5 : decode cX8_isLetter 5 = .ok (.bipush 97, 2) := by decide +kernel
theorem dX8_isLetter_7 : decode cX8_isLetter 7 = .ok (.if_icmp .lt 17, 3) := by decide +kernel
theorem dX8_isLetter_10 : decode cX8_isLetter 10 = .ok (.aload_n 0, 1) := by decide +kernel
theorem dX8_isLetter_11 : decode cX8_isLetter 11 = .ok (.iload_n 1, 1) := by decide +kernel
theorem dX8_isLetter_12 : decode cX8_isLetter 12 = .ok (.invokevirtual 62, 3) := by decide +kernel
theorem dX8_isLetter_15 : decode cX8_isLetter 15 = .ok (.bipush 122, 2) := by decide +kernel
theorem dX8_isLetter_17 : decode cX8_isLetter 17 = .ok (.if_icmp .gt 7, 3) := by decide +kernel
theorem dX8_isLetter_20 : decode cX8_isLetter 20 = .ok (.iconst 1, 1) := by decide +kernel
theorem dX8_isLetter_21 : decode cX8_isLetter 21 = .ok (.goto 4, 3) := by decide +kernel
theorem dX8_isLetter_24 : decode cX8_isLetter 24 = .ok (.iconst 0, 1) := by decide +kernel
theorem dX8_isLetter_25 : decode cX8_isLetter 25 = .ok (.ireturn, 1) := by decide +kernel
theorem dX8_isDigit_0 : decode cX8_isDigit 0 = .ok (.aload_n 0, 1) := by decide +kernel
theorem dX8_isDigit_1 : decode cX8_isDigit 1 = .ok (.iload_n 1, 1) := by decide +kernel
theorem dX8_isDigit_2 : decode cX8_isDigit 2 = .ok (.invokevirtual 62, 3) := by decide +kernel
theorem dX8_isDigit_5 : decode cX8_isDigit 5 = .ok (.bipush 48, 2) := by decide +kernel
theorem dX8_isDigit_7 : decode cX8_isDigit 7 = .ok (.if_icmp .lt 17, 3) := by decide +kernel
theorem dX8_isDigit_10 : decode cX8_isDigit 10 = .ok (.aload_n 0, 1) := by decide +kernel
theorem dX8_isDigit_11 : decode cX8_isDigit 11 = .ok (.iload_n 1, 1) := by decide +kernel
theorem dX8_isDigit_12 : decode cX8_isDigit 12 = .ok (.invokevirtual 62, 3) := by decide +kernel
theorem dX8_isDigit_15 : decode cX8_isDigit 15 = .ok (.bipush 57, 2) := by decide +kernel
theorem dX8_isDigit_17 : decode cX8_isDigit 17 = .ok (.if_icmp .gt 7, 3) := by decide +kernel
theorem dX8_isDigit_20 : decode cX8_isDigit 20 = .ok (.iconst 1, 1) := by decide +kernel
theorem dX8_isDigit_21 : decode cX8_isDigit 21 = .ok (.goto 4, 3) := by decide +kernel
theorem dX8_isDigit_24 : decode cX8_isDigit 24 = .ok (.iconst 0, 1) := by decide +kernel
theorem dX8_isDigit_25 : decode cX8_isDigit 25 = .ok (.ireturn, 1) := by decide +kernel
theorem dX8_isSign_0 : decode cX8_isSign 0 = .ok (.iload_n 0, 1) := by decide +kernel
theorem dX8_isSign_1 : decode cX8_isSign 1 = .ok (.lookupswitch 109 #[(40, 107), (41, 107), (42, 107), (43, 107), (44, 107), (45, 107), (59, 107), (60, 107), (61, 107), (62, 107), (123, 107), (125, 107)], 107) := by decide +kernel
theorem dX8_isSign_108 : decode cX8_isSign 108 = .ok (.iconst 1, 1) := by decide +kernel
theorem dX8_isSign_109 : decode cX8_isSign 109 = .ok (.ireturn, 1) := by decide +kernel
theorem dX8_isSign_110 : decode cX8_isSign 110 = .ok (.iconst 0, 1) := by decide +kernel
theorem dX8_isSign_111 : decode cX8_isSign 111 = .ok (.ireturn, 1) := by decide +kernel
theorem dX8_kindOf_0 : decode cX8_kindOf 0 = .ok (.aload_n 0, 1) := by decide +kernel
theorem dX8_kindOf_1 : decode cX8_kindOf 1 = .ok (.iload_n 1, 1) := by decide +kernel
theorem dX8_kindOf_2 : decode cX8_kindOf 2 = .ok (.invokevirtual 71, 3) := by decide +kernel
theorem dX8_kindOf_5 : decode cX8_kindOf 5 = .ok (.ifCond .eq 5, 3) := by decide +kernel
theorem dX8_kindOf_8 : decode cX8_kindOf 8 = .ok (.iconst 2, 1) := by decide +kernel
theorem dX8_kindOf_9 : decode cX8_kindOf 9 = .ok (.ireturn, 1) := by decide +kernel
theorem dX8_kindOf_10 : decode cX8_kindOf 10 = .ok (.aload_n 0, 1) := by decide +kernel
theorem dX8_kindOf_11 : decode cX8_kindOf 11 = .ok (.iload_n 1, 1) := by decide +kernel
theorem dX8_kindOf_12 : decode cX8_kindOf 12 = .ok (.invokevirtual 68, 3) := by decide +kernel
theorem dX8_kindOf_15 : decode cX8_kindOf 15 = .ok (.ifCond .ne 9, 3) := by decide +kernel
theorem dX8_kindOf_18 : decode cX8_kindOf 18 = .ok (.aload_n 0, 1) := by decide +kernel
theorem dX8_kindOf_19 : decode cX8_kindOf 19 = .ok (.iload_n 1, 1) := by decide +kernel
theorem dX8_kindOf_20 : decode cX8_kindOf 20 = .ok (.invokevirtual 62, 3) := by decide +kernel
theorem dX8_kindOf_23 : decode cX8_kindOf 23 = .ok (.ireturn, 1) := by decide +kernel
theorem dX8_kindOf_24 : decode cX8_kindOf 24 = .ok (.iload_n 2, 1) := by decide +kernel
theorem dX8_kindOf_25 : decode cX8_kindOf 25 = .ok (.iconst 1, 1) := by decide +kernel
theorem dX8_kindOf_26 : decode cX8_kindOf 26 = .ok (.if_icmp .ne 19, 3) := by decide +kernel
theorem dX8_kindOf_29 : decode cX8_kindOf 29 = .ok (.aload_n 0, 1) := by decide +kernel
theorem dX8_kindOf_30 : decode cX8_kindOf 30 = .ok (.iload_n 1, 1) := by decide +kernel
theorem dX8_kindOf_31 : decode cX8_kindOf 31 = .ok (.invokevirtual 62, 3) := by decide +kernel
theorem dX8_kindOf_34 : decode cX8_kindOf 34 = .ok (.bipush 104, 2) := by decide +kernel
theorem dX8_kindOf_36 : decode cX8_kindOf 36 = .ok (.if_icmp .gt 7, 3) := by decide +kernel
theorem dX8_kindOf_39 : decode cX8_kindOf 39 = .ok (.iconst 3, 1) := by decide +kernel
theorem dX8_kindOf_40 : decode cX8_kindOf 40 = .ok (.goto 4, 3) := by decide +kernel
theorem dX8_kindOf_43 : decode cX8_kindOf 43 = .ok (.iconst 1, 1) := by decide +kernel
theorem dX8_kindOf_44 : decode cX8_kindOf 44 = .ok (.ireturn, 1) := by decide +kernel
theorem dX8_kindOf_45 : decode cX8_kindOf 45 = .ok (.aload_n 0, 1) := by decide +kernel
theorem dX8_kindOf_46 : decode cX8_kindOf 46 = .ok (.iload_n 1, 1) := by decide +kernel
theorem dX8_kindOf_47 : decode cX8_kindOf 47 = .ok (.iload_n 2, 1) := by decide +kernel
theorem dX8_kindOf_48 : decode cX8_kindOf 48 = .ok (.invokevirtual 77, 3) := by decide +kernel
theorem dX8_kindOf_51 : decode cX8_kindOf 51 = .ok (.ireturn, 1) := by decide +kernel
theorem dX8_wordKind_0 : decode cX8_wordKind 0 = .ok (.aload_n 0, 1) := by decide +kernel
theorem dX8_wordKind_1 : decode cX8_wordKind 1 = .ok (.iload_n 1, 1) := by decide +kernel
theorem dX8_wordKind_2 : decode cX8_wordKind 2 = .ok (.iload_n 2, 1) := by decide +kernel
theorem dX8_wordKind_3 : decode cX8_wordKind 3 = .ok (.ldc 80, 2) := by decide +kernel
theorem dX8_wordKind_5 : decode cX8_wordKind 5 = .ok (.invokevirtual 82, 3) := by decide +kernel
theorem dX8_wordKind_8 : decode cX8_wordKind 8 = .ok (.ifCond .eq 5, 3) := by decide +kernel
theorem dX8_wordKind_11 : decode cX8_wordKind 11 = .ok (.iconst 5, 1) := by decide +kernel
theorem dX8_wordKind_12 : decode cX8_wordKind 12 = .ok (.ireturn, 1) := by decide +kernel
theorem dX8_wordKind_13 : decode cX8_wordKind 13 = .ok (.aload_n 0, 1) := by decide +kernel
theorem dX8_wordKind_14 : decode cX8_wordKind 14 = .ok (.iload_n 1, 1) := by decide +kernel
theorem dX8_wordKind_15 : decode cX8_wordKind 15 = .ok (.iload_n 2, 1) := by decide +kernel
theorem dX8_wordKind_16 : decode cX8_wordKind 16 = .ok (.ldc 86, 2) := by decide +kernel
theorem dX8_wordKind_18 : decode cX8_wordKind 18 = .ok (.invokevirtual 82, 3) := by decide +kernel
theorem dX8_wordKind_21 : decode cX8_wordKind 21 = .ok (.ifCond .eq 6, 3) := by decide +kernel
theorem dX8_wordKind_24 : decode cX8_wordKind 24 = .ok (.bipush 6, 2) := by decide +kernel
theorem dX8_wordKind_26 : decode cX8_wordKind 26 = .ok (.ireturn, 1) := by decide +kernel
theorem dX8_wordKind_27 : decode cX8_wordKind 27 = .ok (.aload_n 0, 1) := by decide +kernel
theorem dX8_wordKind_28 : decode cX8_wordKind 28 = .ok (.iload_n 1, 1) := by decide +kernel
theorem dX8_wordKind_29 : decode cX8_wordKind 29 = .ok (.iload_n 2, 1) := by decide +kernel
theorem dX8_wordKind_30 : decode cX8_wordKind 30 = .ok (.ldc 88, 2) := by decide +kernel
theorem dX8_wordKind_32 : decode cX8_wordKind 32 = .ok (.invokevirtual 82, 3) := by decide +kernel
theorem dX8_wordKind_35 : decode cX8_wordKind 35 = .ok (.ifCond .eq 6, 3) := by decide +kernel
theorem dX8_wordKind_38 : decode cX8_wordKind 38 = .ok (.bipush 7, 2) := by decide +kernel
theorem dX8_wordKind_40 : decode cX8_wordKind 40 = .ok (.ireturn, 1) := by decide +kernel
theorem dX8_wordKind_41 : decode cX8_wordKind 41 = .ok (.aload_n 0, 1) := by decide +kernel
theorem dX8_wordKind_42 : decode cX8_wordKind 42 = .ok (.iload_n 1, 1) := by decide +kernel
theorem dX8_wordKind_43 : decode cX8_wordKind 43 = .ok (.iload_n 2, 1) := by decide +kernel
theorem dX8_wordKind_44 : decode cX8_wordKind 44 = .ok (.ldc 90, 2) := by decide +kernel
theorem dX8_wordKind_46 : decode cX8_wordKind 46 = .ok (.invokevirtual 82, 3) := by decide +kernel
theorem dX8_wordKind_49 : decode cX8_wordKind 49 = .ok (.ifCond .eq 6, 3) := by decide +kernel
theorem dX8_wordKind_52 : decode cX8_wordKind 52 = .ok (.bipush 8, 2) := by decide +kernel
theorem dX8_wordKind_54 : decode cX8_wordKind 54 = .ok (.ireturn, 1) := by decide +kernel
theorem dX8_wordKind_55 : decode cX8_wordKind 55 = .ok (.aload_n 0, 1) := by decide +kernel
theorem dX8_wordKind_56 : decode cX8_wordKind 56 = .ok (.iload_n 1, 1) := by decide +kernel
theorem dX8_wordKind_57 : decode cX8_wordKind 57 = .ok (.iload_n 2, 1) := by decide +kernel
theorem dX8_wordKind_58 : decode cX8_wordKind 58 = .ok (.ldc 92, 2) := by decide +kernel
theorem dX8_wordKind_60 : decode cX8_wordKind 60 = .ok (.invokevirtual 82, 3) := by decide +kernel
theorem dX8_wordKind_63 : decode cX8_wordKind 63 = .ok (.ifCond .eq 6, 3) := by decide +kernel
theorem dX8_wordKind_66 : decode cX8_wordKind 66 = .ok (.bipush 9, 2) := by decide +kernel
theorem dX8_wordKind_68 : decode cX8_wordKind 68 = .ok (.ireturn, 1) := by decide +kernel
theorem dX8_wordKind_69 : decode cX8_wordKind 69 = .ok (.aload_n 0, 1) := by decide +kernel
theorem dX8_wordKind_70 : decode cX8_wordKind 70 = .ok (.iload_n 1, 1) := by decide +kernel
theorem dX8_wordKind_71 : decode cX8_wordKind 71 = .ok (.iload_n 2, 1) := by decide +kernel
theorem dX8_wordKind_72 : decode cX8_wordKind 72 = .ok (.ldc 94, 2) := by decide +kernel
theorem dX8_wordKind_74 : decode cX8_wordKind 74 = .ok (.invokevirtual 82, 3) := by decide +kernel
theorem dX8_wordKind_77 : decode cX8_wordKind 77 = .ok (.ifCond .eq 8, 3) := by decide +kernel
theorem dX8_wordKind_80 : decode cX8_wordKind 80 = .ok (.bipush 10, 2) := by decide +kernel
theorem dX8_wordKind_82 : decode cX8_wordKind 82 = .ok (.goto 4, 3) := by decide +kernel
theorem dX8_wordKind_85 : decode cX8_wordKind 85 = .ok (.iconst 4, 1) := by decide +kernel
theorem dX8_wordKind_86 : decode cX8_wordKind 86 = .ok (.ireturn, 1) := by decide +kernel
theorem dX8_spells_0 : decode cX8_spells 0 = .ok (.iload_n 2, 1) := by decide +kernel
theorem dX8_spells_1 : decode cX8_spells 1 = .ok (.aload_n 3, 1) := by decide +kernel
theorem dX8_spells_2 : decode cX8_spells 2 = .ok (.invokevirtual 96, 3) := by decide +kernel
theorem dX8_spells_5 : decode cX8_spells 5 = .ok (.if_icmp .eq 5, 3) := by decide +kernel
theorem dX8_spells_8 : decode cX8_spells 8 = .ok (.iconst 0, 1) := by decide +kernel
theorem dX8_spells_9 : decode cX8_spells 9 = .ok (.ireturn, 1) := by decide +kernel
theorem dX8_spells_10 : decode cX8_spells 10 = .ok (.iconst 0, 1) := by decide +kernel
theorem dX8_spells_11 : decode cX8_spells 11 = .ok (.istore 4, 2) := by decide +kernel
theorem dX8_spells_13 : decode cX8_spells 13 = .ok (.iload 4, 2) := by decide +kernel
theorem dX8_spells_15 : decode cX8_spells 15 = .ok (.iload_n 2, 1) := by decide +kernel
theorem dX8_spells_16 : decode cX8_spells 16 = .ok (.if_icmp .ge 28, 3) := by decide +kernel
theorem dX8_spells_19 : decode cX8_spells 19 = .ok (.aload_n 0, 1) := by decide +kernel
theorem dX8_spells_20 : decode cX8_spells 20 = .ok (.iload_n 1, 1) := by decide +kernel
theorem dX8_spells_21 : decode cX8_spells 21 = .ok (.iload 4, 2) := by decide +kernel
theorem dX8_spells_23 : decode cX8_spells 23 = .ok (.iadd, 1) := by decide +kernel
theorem dX8_spells_24 : decode cX8_spells 24 = .ok (.invokevirtual 62, 3) := by decide +kernel
theorem dX8_spells_27 : decode cX8_spells 27 = .ok (.aload_n 3, 1) := by decide +kernel
theorem dX8_spells_28 : decode cX8_spells 28 = .ok (.iload 4, 2) := by decide +kernel
theorem dX8_spells_30 : decode cX8_spells 30 = .ok (.invokevirtual 101, 3) := by decide +kernel
theorem dX8_spells_33 : decode cX8_spells 33 = .ok (.if_icmp .eq 5, 3) := by decide +kernel
theorem dX8_spells_36 : decode cX8_spells 36 = .ok (.iconst 0, 1) := by decide +kernel
theorem dX8_spells_37 : decode cX8_spells 37 = .ok (.ireturn, 1) := by decide +kernel
theorem dX8_spells_38 : decode cX8_spells 38 = .ok (.iinc 4 1, 3) := by decide +kernel
theorem dX8_spells_41 : decode cX8_spells 41 = .ok (.goto (-28), 3) := by decide +kernel
theorem dX8_spells_44 : decode cX8_spells 44 = .ok (.iconst 1, 1) := by decide +kernel
theorem dX8_spells_45 : decode cX8_spells 45 = .ok (.ireturn, 1) := by decide +kernel
theorem dX9_init_0 : decode cX9_init 0 = .ok (.aload_n 0, 1) := by decide +kernel
theorem dX9_init_1 : decode cX9_init 1 = .ok (.invokespecial 3, 3) := by decide +kernel
theorem dX9_init_4 : decode cX9_init 4 = .ok (.aload_n 0, 1) := by decide +kernel
theorem dX9_init_5 : decode cX9_init 5 = .ok (.bipush 12, 2) := by decide +kernel
theorem dX9_init_7 : decode cX9_init 7 = .ok (.newarray .long, 2) := by decide +kernel
theorem dX9_init_9 : decode cX9_init 9 = .ok (.putfield 11, 3) := by decide +kernel
theorem dX9_init_12 : decode cX9_init 12 = .ok (.aload_n 0, 1) := by decide +kernel
theorem dX9_init_13 : decode cX9_init 13 = .ok (.bipush 12, 2) := by decide +kernel
theorem dX9_init_15 : decode cX9_init 15 = .ok (.newarray .int, 2) := by decide +kernel
theorem dX9_init_17 : decode cX9_init 17 = .ok (.putfield 15, 3) := by decide +kernel
theorem dX9_init_20 : decode cX9_init 20 = .ok (.aload_n 0, 1) := by decide +kernel
theorem dX9_init_21 : decode cX9_init 21 = .ok (.iconst (-1), 1) := by decide +kernel
theorem dX9_init_22 : decode cX9_init 22 = .ok (.putfield 19, 3) := by decide +kernel
theorem dX9_init_25 : decode cX9_init 25 = .ok (.return_, 1) := by decide +kernel
theorem dX9_forget_0 : decode cX9_forget 0 = .ok (.aload_n 0, 1) := by decide +kernel
theorem dX9_forget_1 : decode cX9_forget 1 = .ok (.iconst 0, 1) := by decide +kernel
theorem dX9_forget_2 : decode cX9_forget 2 = .ok (.putfield 23, 3) := by decide +kernel
theorem dX9_forget_5 : decode cX9_forget 5 = .ok (.aload_n 0, 1) := by decide +kernel
theorem dX9_forget_6 : decode cX9_forget 6 = .ok (.iconst 0, 1) := by decide +kernel
theorem dX9_forget_7 : decode cX9_forget 7 = .ok (.putfield 26, 3) := by decide +kernel
theorem dX9_forget_10 : decode cX9_forget 10 = .ok (.aload_n 0, 1) := by decide +kernel
theorem dX9_forget_11 : decode cX9_forget 11 = .ok (.iconst (-1), 1) := by decide +kernel
theorem dX9_forget_12 : decode cX9_forget 12 = .ok (.putfield 19, 3) := by decide +kernel
theorem dX9_forget_15 : decode cX9_forget 15 = .ok (.return_, 1) := by decide +kernel
theorem dX9_isFull_0 : decode cX9_isFull 0 = .ok (.aload_n 0, 1) := by decide +kernel
theorem dX9_isFull_1 : decode cX9_isFull 1 = .ok (.getfield 23, 3) := by decide +kernel
theorem dX9_isFull_4 : decode cX9_isFull 4 = .ok (.aload_n 0, 1) := by decide +kernel
theorem dX9_isFull_5 : decode cX9_isFull 5 = .ok (.getfield 11, 3) := by decide +kernel
theorem dX9_isFull_8 : decode cX9_isFull 8 = .ok (.arraylength, 1) := by decide +kernel
theorem dX9_isFull_9 : decode cX9_isFull 9 = .ok (.if_icmp .lt 7, 3) := by decide +kernel
theorem dX9_isFull_12 : decode cX9_isFull 12 = .ok (.iconst 1, 1) := by decide +kernel
theorem dX9_isFull_13 : decode cX9_isFull 13 = .ok (.goto 4, 3) := by decide +kernel
theorem dX9_isFull_16 : decode cX9_isFull 16 = .ok (.iconst 0, 1) := by decide +kernel
theorem dX9_isFull_17 : decode cX9_isFull 17 = .ok (.ireturn, 1) := by decide +kernel
theorem dX9_add_0 : decode cX9_add 0 = .ok (.aload_n 0, 1) := by decide +kernel
theorem dX9_add_1 : decode cX9_add 1 = .ok (.invokevirtual 29, 3) := by decide +kernel
theorem dX9_add_4 : decode cX9_add 4 = .ok (.ifCond .eq 5, 3) := by decide +kernel
theorem dX9_add_7 : decode cX9_add 7 = .ok (.iconst (-1), 1) := by decide +kernel
theorem dX9_add_8 : decode cX9_add 8 = .ok (.ireturn, 1) := by decide +kernel
theorem dX9_add_9 : decode cX9_add 9 = .ok (.aload_n 0, 1) := by decide +kernel
theorem dX9_add_10 : decode cX9_add 10 = .ok (.getfield 11, 3) := by decide +kernel
theorem dX9_add_13 : decode cX9_add 13 = .ok (.aload_n 0, 1) := by decide +kernel
theorem dX9_add_14 : decode cX9_add 14 = .ok (.getfield 23, 3) := by decide +kernel
theorem dX9_add_17 : decode cX9_add 17 = .ok (.lload_n 1, 1) := by decide +kernel
theorem dX9_add_18 : decode cX9_add 18 = .ok (.lastore, 1) := by decide +kernel
theorem dX9_add_19 : decode cX9_add 19 = .ok (.aload_n 0, 1) := by decide +kernel
theorem dX9_add_20 : decode cX9_add 20 = .ok (.dup, 1) := by decide +kernel
theorem dX9_add_21 : decode cX9_add 21 = .ok (.getfield 23, 3) := by decide +kernel
theorem dX9_add_24 : decode cX9_add 24 = .ok (.iconst 1, 1) := by decide +kernel
theorem dX9_add_25 : decode cX9_add 25 = .ok (.iadd, 1) := by decide +kernel
theorem dX9_add_26 : decode cX9_add 26 = .ok (.putfield 23, 3) := by decide +kernel
theorem dX9_add_29 : decode cX9_add 29 = .ok (.aload_n 0, 1) := by decide +kernel
theorem dX9_add_30 : decode cX9_add 30 = .ok (.getfield 23, 3) := by decide +kernel
theorem dX9_add_33 : decode cX9_add 33 = .ok (.iconst 1, 1) := by decide +kernel
theorem dX9_add_34 : decode cX9_add 34 = .ok (.isub, 1) := by decide +kernel
theorem dX9_add_35 : decode cX9_add 35 = .ok (.ireturn, 1) := by decide +kernel
theorem dX9_shownLines_0 : decode cX9_shownLines 0 = .ok (.aload_n 0, 1) := by decide +kernel
theorem dX9_shownLines_1 : decode cX9_shownLines 1 = .ok (.iconst 1, 1) := by decide +kernel
theorem dX9_shownLines_2 : decode cX9_shownLines 2 = .ok (.aload_n 0, 1) := by decide +kernel
theorem dX9_shownLines_3 : decode cX9_shownLines 3 = .ok (.getfield 23, 3) := by decide +kernel
theorem dX9_shownLines_6 : decode cX9_shownLines 6 = .ok (.ishl, 1) := by decide +kernel
theorem dX9_shownLines_7 : decode cX9_shownLines 7 = .ok (.iconst 1, 1) := by decide +kernel
theorem dX9_shownLines_8 : decode cX9_shownLines 8 = .ok (.isub, 1) := by decide +kernel
theorem dX9_shownLines_9 : decode cX9_shownLines 9 = .ok (.invokevirtual 33, 3) := by decide +kernel
theorem dX9_shownLines_12 : decode cX9_shownLines 12 = .ok (.lreturn, 1) := by decide +kernel
theorem dX9_chooseFewest_0 : decode cX9_chooseFewest 0 = .ok (.aload_n 0, 1) := by decide +kernel
theorem dX9_chooseFewest_1 : decode cX9_chooseFewest 1 = .ok (.getfield 19, 3) := by decide +kernel
theorem dX9_chooseFewest_4 : decode cX9_chooseFewest 4 = .ok (.aload_n 0, 1) := by decide +kernel
theorem dX9_chooseFewest_5 : decode cX9_chooseFewest 5 = .ok (.getfield 23, 3) := by decide +kernel
theorem dX9_chooseFewest_8 : decode cX9_chooseFewest 8 = .ok (.if_icmp .eq 19, 3) := by decide +kernel
theorem dX9_chooseFewest_11 : decode cX9_chooseFewest 11 = .ok (.aload_n 0, 1) := by decide +kernel
theorem dX9_chooseFewest_12 : decode cX9_chooseFewest 12 = .ok (.aload_n 0, 1) := by decide +kernel
theorem dX9_chooseFewest_13 : decode cX9_chooseFewest 13 = .ok (.invokevirtual 37, 3) := by decide +kernel
theorem dX9_chooseFewest_16 : decode cX9_chooseFewest 16 = .ok (.invokevirtual 41, 3) := by decide +kernel
theorem dX9_chooseFewest_19 : decode cX9_chooseFewest 19 = .ok (.aload_n 0, 1) := by decide +kernel
theorem dX9_chooseFewest_20 : decode cX9_chooseFewest 20 = .ok (.aload_n 0, 1) := by decide +kernel
theorem dX9_chooseFewest_21 : decode cX9_chooseFewest 21 = .ok (.getfield 23, 3) := by decide +kernel
theorem dX9_chooseFewest_24 : decode cX9_chooseFewest 24 = .ok (.putfield 19, 3) := by decide +kernel
theorem dX9_chooseFewest_27 : decode cX9_chooseFewest 27 = .ok (.aload_n 0, 1) := by decide +kernel
theorem dX9_chooseFewest_28 : decode cX9_chooseFewest 28 = .ok (.getfield 26, 3) := by decide +kernel
theorem dX9_chooseFewest_31 : decode cX9_chooseFewest 31 = .ok (.ireturn, 1) := by decide +kernel
theorem dX9_chosenAt_0 : decode cX9_chosenAt 0 = .ok (.iload_n 1, 1) := by decide +kernel
theorem dX9_chosenAt_1 : decode cX9_chosenAt 1 = .ok (.ifCond .lt 29, 3) := by decide +kernel
theorem dX9_chosenAt_4 : decode cX9_chosenAt 4 = .ok (.iload_n 1, 1) := by decide +kernel
theorem dX9_chosenAt_5 : decode cX9_chosenAt 5 = .ok (.aload_n 0, 1) := by decide +kernel
theorem dX9_chosenAt_6 : decode cX9_chosenAt 6 = .ok (.getfield 26, 3) := by decide +kernel
theorem dX9_chosenAt_9 : decode cX9_chosenAt 9 = .ok (.if_icmp .ge 21, 3) := by decide +kernel
theorem dX9_chosenAt_12 : decode cX9_chosenAt 12 = .ok (.iload_n 1, 1) := by decide +kernel
theorem dX9_chosenAt_13 : decode cX9_chosenAt 13 = .ok (.aload_n 0, 1) := by decide +kernel
theorem dX9_chosenAt_14 : decode cX9_chosenAt 14 = .ok (.getfield 15, 3) := by decide +kernel
theorem dX9_chosenAt_17 : decode cX9_chosenAt 17 = .ok (.arraylength, 1) := by decide +kernel
theorem dX9_chosenAt_18 : decode cX9_chosenAt 18 = .ok (.if_icmp .ge 12, 3) := by decide +kernel
theorem dX9_chosenAt_21 : decode cX9_chosenAt 21 = .ok (.aload_n 0, 1) := by decide +kernel
theorem dX9_chosenAt_22 : decode cX9_chosenAt 22 = .ok (.getfield 15, 3) := by decide +kernel
theorem dX9_chosenAt_25 : decode cX9_chosenAt 25 = .ok (.iload_n 1, 1) := by decide +kernel
theorem dX9_chosenAt_26 : decode cX9_chosenAt 26 = .ok (.iaload, 1) := by decide +kernel
theorem dX9_chosenAt_27 : decode cX9_chosenAt 27 = .ok (.goto 4, 3) := by decide +kernel
theorem dX9_chosenAt_30 : decode cX9_chosenAt 30 = .ok (.iconst (-1), 1) := by decide +kernel
theorem dX9_chosenAt_31 : decode cX9_chosenAt 31 = .ok (.ireturn, 1) := by decide +kernel
theorem dX9_fewestSet_0 : decode cX9_fewestSet 0 = .ok (.iconst 1, 1) := by decide +kernel
theorem dX9_fewestSet_1 : decode cX9_fewestSet 1 = .ok (.aload_n 0, 1) := by decide +kernel
theorem dX9_fewestSet_2 : decode cX9_fewestSet 2 = .ok (.getfield 23, 3) := by decide +kernel
theorem dX9_fewestSet_5 : decode cX9_fewestSet 5 = .ok (.ishl, 1) := by decide +kernel
theorem dX9_fewestSet_6 : decode cX9_fewestSet 6 = .ok (.iconst 1, 1) := by decide +kernel
theorem dX9_fewestSet_7 : decode cX9_fewestSet 7 = .ok (.isub, 1) := by decide +kernel
theorem dX9_fewestSet_8 : decode cX9_fewestSet 8 = .ok (.istore_n 1, 1) := by decide +kernel
theorem dX9_fewestSet_9 : decode cX9_fewestSet 9 = .ok (.aload_n 0, 1) := by decide +kernel
theorem dX9_fewestSet_10 : decode cX9_fewestSet 10 = .ok (.iload_n 1, 1) := by decide +kernel
theorem dX9_fewestSet_11 : decode cX9_fewestSet 11 = .ok (.invokevirtual 33, 3) := by decide +kernel
theorem dX9_fewestSet_14 : decode cX9_fewestSet 14 = .ok (.lstore_n 2, 1) := by decide +kernel
theorem dX9_fewestSet_15 : decode cX9_fewestSet 15 = .ok (.iload_n 1, 1) := by decide +kernel
theorem dX9_fewestSet_16 : decode cX9_fewestSet 16 = .ok (.iconst 1, 1) := by decide +kernel
theorem dX9_fewestSet_17 : decode cX9_fewestSet 17 = .ok (.isub, 1) := by decide +kernel
theorem dX9_fewestSet_18 : decode cX9_fewestSet 18 = .ok (.istore 4, 2) := by decide +kernel
theorem dX9_fewestSet_20 : decode cX9_fewestSet 20 = .ok (.iload 4, 2) := by decide +kernel
theorem dX9_fewestSet_22 : decode cX9_fewestSet 22 = .ok (.ifCond .lt 35, 3) := by decide +kernel
theorem dX9_fewestSet_25 : decode cX9_fewestSet 25 = .ok (.iload 4, 2) := by decide +kernel
theorem dX9_fewestSet_27 : decode cX9_fewestSet 27 = .ok (.invokestatic 45, 3) := by decide +kernel
theorem dX9_fewestSet_30 : decode cX9_fewestSet 30 = .ok (.iload_n 1, 1) := by decide +kernel
theorem dX9_fewestSet_31 : decode cX9_fewestSet 31 = .ok (.invokestatic 45, 3) := by decide +kernel
theorem dX9_fewestSet_34 : decode cX9_fewestSet 34 = .ok (.if_icmp .ge 17, 3) := by decide +kernel
theorem dX9_fewestSet_37 : decode cX9_fewestSet 37 = .ok (.aload_n 0, 1) := by decide +kernel
theorem dX9_fewestSet_38 : decode cX9_fewestSet 38 = .ok (.iload 4, 2) := by decide +kernel
theorem dX9_fewestSet_40 : decode cX9_fewestSet 40 = .ok (.invokevirtual 33, 3) := by decide +kernel
theorem dX9_fewestSet_43 : decode cX9_fewestSet 43 = .ok (.lload_n 2, 1) := by decide +kernel
theorem dX9_fewestSet_44 : decode cX9_fewestSet 44 = .ok (.lcmp, 1) := by decide +kernel
theorem dX9_fewestSet_45 : decode cX9_fewestSet 45 = .ok (.ifCond .ne 6, 3) := by decide +kernel
theorem dX9_fewestSet_48 : decode cX9_fewestSet 48 = .ok (.iload 4, 2) := by decide +kernel
theorem dX9_fewestSet_50 : decode cX9_fewestSet 50 = .ok (.istore_n 1, 1) := by decide +kernel
theorem dX9_fewestSet_51 : decode cX9_fewestSet 51 = .ok (.iinc 4 (-1), 3) := by decide +kernel
theorem dX9_fewestSet_54 : decode cX9_fewestSet 54 = .ok (.goto (-34), 3) := by decide +kernel
theorem dX9_fewestSet_57 : decode cX9_fewestSet 57 = .ok (.iload_n 1, 1) := by decide +kernel
theorem dX9_fewestSet_58 : decode cX9_fewestSet 58 = .ok (.ireturn, 1) := by decide +kernel
theorem dX9_choose_0 : decode cX9_choose 0 = .ok (.aload_n 0, 1) := by decide +kernel
theorem dX9_choose_1 : decode cX9_choose 1 = .ok (.iconst 0, 1) := by decide +kernel
theorem dX9_choose_2 : decode cX9_choose 2 = .ok (.putfield 26, 3) := by decide +kernel
theorem dX9_choose_5 : decode cX9_choose 5 = .ok (.iconst 0, 1) := by decide +kernel
theorem dX9_choose_6 : decode cX9_choose 6 = .ok (.istore_n 2, 1) := by decide +kernel
theorem dX9_choose_7 : decode cX9_choose 7 = .ok (.iload_n 2, 1) := by decide +kernel
theorem dX9_choose_8 : decode cX9_choose 8 = .ok (.aload_n 0, 1) := by decide +kernel
theorem dX9_choose_9 : decode cX9_choose 9 = .ok (.getfield 23, 3) := by decide +kernel
theorem dX9_choose_12 : decode cX9_choose 12 = .ok (.if_icmp .ge 47, 3) := by decide +kernel
theorem dX9_choose_15 : decode cX9_choose 15 = .ok (.iload_n 2, 1) := by decide +kernel
theorem dX9_choose_16 : decode cX9_choose 16 = .ok (.aload_n 0, 1) := by decide +kernel
theorem dX9_choose_17 : decode cX9_choose 17 = .ok (.getfield 15, 3) := by decide +kernel
theorem dX9_choose_20 : decode cX9_choose 20 = .ok (.arraylength, 1) := by decide +kernel
theorem dX9_choose_21 : decode cX9_choose 21 = .ok (.if_icmp .ge 38, 3) := by decide +kernel
theorem dX9_choose_24 : decode cX9_choose 24 = .ok (.aload_n 0, 1) := by decide +kernel
theorem dX9_choose_25 : decode cX9_choose 25 = .ok (.iload_n 1, 1) := by decide +kernel
theorem dX9_choose_26 : decode cX9_choose 26 = .ok (.iload_n 2, 1) := by decide +kernel
theorem dX9_choose_27 : decode cX9_choose 27 = .ok (.invokevirtual 51, 3) := by decide +kernel
theorem dX9_choose_30 : decode cX9_choose 30 = .ok (.ifCond .eq 23, 3) := by decide +kernel
theorem dX9_choose_33 : decode cX9_choose 33 = .ok (.aload_n 0, 1) := by decide +kernel
theorem dX9_choose_34 : decode cX9_choose 34 = .ok (.getfield 15, 3) := by decide +kernel
theorem dX9_choose_37 : decode cX9_choose 37 = .ok (.aload_n 0, 1) := by decide +kernel
theorem dX9_choose_38 : decode cX9_choose 38 = .ok (.getfield 26, 3) := by decide +kernel
theorem dX9_choose_41 : decode cX9_choose 41 = .ok (.iload_n 2, 1) := by decide +kernel
theorem dX9_choose_42 : decode cX9_choose 42 = .ok (.iastore, 1) := by decide +kernel
theorem dX9_choose_43 : decode cX9_choose 43 = .ok (.aload_n 0, 1) := by decide +kernel
theorem dX9_choose_44 : decode cX9_choose 44 = .ok (.dup, 1) := by decide +kernel
theorem dX9_choose_45 : decode cX9_choose 45 = .ok (.getfield 26, 3) := by decide +kernel
theorem dX9_choose_48 : decode cX9_choose 48 = .ok (.iconst 1, 1) := by decide +kernel
theorem dX9_choose_49 : decode cX9_choose 49 = .ok (.iadd, 1) := by decide +kernel
theorem dX9_choose_50 : decode cX9_choose 50 = .ok (.putfield 26, 3) := by decide +kernel
theorem dX9_choose_53 : decode cX9_choose 53 = .ok (.iinc 2 1, 3) := by decide +kernel
theorem dX9_choose_56 : decode cX9_choose 56 = .ok (.goto (-49), 3) := by decide +kernel
theorem dX9_choose_59 : decode cX9_choose 59 = .ok (.return_, 1) := by decide +kernel
theorem dX9_linesOf_0 : decode cX9_linesOf 0 = .ok (.lconst 0, 1) := by decide +kernel
theorem dX9_linesOf_1 : decode cX9_linesOf 1 = .ok (.lstore_n 2, 1) := by decide +kernel
theorem dX9_linesOf_2 : decode cX9_linesOf 2 = .ok (.iconst 0, 1) := by decide +kernel
theorem dX9_linesOf_3 : decode cX9_linesOf 3 = .ok (.istore 4, 2) := by decide +kernel
theorem dX9_linesOf_5 : decode cX9_linesOf 5 = .ok (.iload 4, 2) := by decide +kernel
theorem dX9_linesOf_7 : decode cX9_linesOf 7 = .ok (.aload_n 0, 1) := by decide +kernel
theorem dX9_linesOf_8 : decode cX9_linesOf 8 = .ok (.getfield 23, 3) := by decide +kernel
theorem dX9_linesOf_11 : decode cX9_linesOf 11 = .ok (.if_icmp .ge 39, 3) := by decide +kernel
theorem dX9_linesOf_14 : decode cX9_linesOf 14 = .ok (.iload 4, 2) := by decide +kernel
theorem dX9_linesOf_16 : decode cX9_linesOf 16 = .ok (.aload_n 0, 1) := by decide +kernel
theorem dX9_linesOf_17 : decode cX9_linesOf 17 = .ok (.getfield 11, 3) := by decide +kernel
theorem dX9_linesOf_20 : decode cX9_linesOf 20 = .ok (.arraylength, 1) := by decide +kernel
theorem dX9_linesOf_21 : decode cX9_linesOf 21 = .ok (.if_icmp .ge 29, 3) := by decide +kernel
theorem dX9_linesOf_24 : decode cX9_linesOf 24 = .ok (.aload_n 0, 1) := by decide +kernel
theorem dX9_linesOf_25 : decode cX9_linesOf 25 = .ok (.iload_n 1, 1) := by decide +kernel
theorem dX9_linesOf_26 : decode cX9_linesOf 26 = .ok (.iload 4, 2) := by decide +kernel
theorem dX9_linesOf_28 : decode cX9_linesOf 28 = .ok (.invokevirtual 51, 3) := by decide +kernel
theorem dX9_linesOf_31 : decode cX9_linesOf 31 = .ok (.ifCond .eq 13, 3) := by decide +kernel
theorem dX9_linesOf_34 : decode cX9_linesOf 34 = .ok (.lload_n 2, 1) := by decide +kernel
theorem dX9_linesOf_35 : decode cX9_linesOf 35 = .ok (.aload_n 0, 1) := by decide +kernel
theorem dX9_linesOf_36 : decode cX9_linesOf 36 = .ok (.getfield 11, 3) := by decide +kernel
theorem dX9_linesOf_39 : decode cX9_linesOf 39 = .ok (.iload 4, 2) := by decide +kernel
theorem dX9_linesOf_41 : decode cX9_linesOf 41 = .ok (.laload, 1) := by decide +kernel
theorem dX9_linesOf_42 : decode cX9_linesOf 42 = .ok (.lor, 1) := by decide +kernel
theorem dX9_linesOf_43 : decode cX9_linesOf 43 = .ok (.lstore_n 2, 1) := by decide +kernel
theorem dX9_linesOf_44 : decode cX9_linesOf 44 = .ok (.iinc 4 1, 3) := by decide +kernel
theorem dX9_linesOf_47 : decode cX9_linesOf 47 = .ok (.goto (-42), 3) := by decide +kernel
theorem dX9_linesOf_50 : decode cX9_linesOf 50 = .ok (.lload_n 2, 1) := by decide +kernel
theorem dX9_linesOf_51 : decode cX9_linesOf 51 = .ok (.lreturn, 1) := by decide +kernel
theorem dX9_holds_0 : decode cX9_holds 0 = .ok (.iload_n 1, 1) := by decide +kernel
theorem dX9_holds_1 : decode cX9_holds 1 = .ok (.aload_n 0, 1) := by decide +kernel
theorem dX9_holds_2 : decode cX9_holds 2 = .ok (.getfield 23, 3) := by decide +kernel
theorem dX9_holds_5 : decode cX9_holds 5 = .ok (.iconst 1, 1) := by decide +kernel
theorem dX9_holds_6 : decode cX9_holds 6 = .ok (.isub, 1) := by decide +kernel
theorem dX9_holds_7 : decode cX9_holds 7 = .ok (.iload_n 2, 1) := by decide +kernel
theorem dX9_holds_8 : decode cX9_holds 8 = .ok (.isub, 1) := by decide +kernel
theorem dX9_holds_9 : decode cX9_holds 9 = .ok (.ishr, 1) := by decide +kernel
theorem dX9_holds_10 : decode cX9_holds 10 = .ok (.iconst 1, 1) := by decide +kernel
theorem dX9_holds_11 : decode cX9_holds 11 = .ok (.iand, 1) := by decide +kernel
theorem dX9_holds_12 : decode cX9_holds 12 = .ok (.ifCond .eq 7, 3) := by decide +kernel
theorem dX9_holds_15 : decode cX9_holds 15 = .ok (.iconst 1, 1) := by decide +kernel
theorem dX9_holds_16 : decode cX9_holds 16 = .ok (.goto 4, 3) := by decide +kernel
theorem dX9_holds_19 : decode cX9_holds 19 = .ok (.iconst 0, 1) := by decide +kernel
theorem dX9_holds_20 : decode cX9_holds 20 = .ok (.ireturn, 1) := by decide +kernel
theorem dX10_init_0 : decode cX10_init 0 = .ok (.aload_n 0, 1) := by decide +kernel
theorem dX10_init_1 : decode cX10_init 1 = .ok (.invokespecial 1, 3) := by decide +kernel
theorem dX10_init_4 : decode cX10_init 4 = .ok (.aload_n 0, 1) := by decide +kernel
theorem dX10_init_5 : decode cX10_init 5 = .ok (.sipush 600, 3) := by decide +kernel
theorem dX10_init_8 : decode cX10_init 8 = .ok (.newarray .byte, 2) := by decide +kernel
theorem dX10_init_10 : decode cX10_init 10 = .ok (.putfield 9, 3) := by decide +kernel
theorem dX10_init_13 : decode cX10_init 13 = .ok (.aload_n 0, 1) := by decide +kernel
theorem dX10_init_14 : decode cX10_init 14 = .ok (.new 13, 3) := by decide +kernel
theorem dX10_init_17 : decode cX10_init 17 = .ok (.dup, 1) := by decide +kernel
theorem dX10_init_18 : decode cX10_init 18 = .ok (.invokespecial 15, 3) := by decide +kernel
theorem dX10_init_21 : decode cX10_init 21 = .ok (.putfield 16, 3) := by decide +kernel
theorem dX10_init_24 : decode cX10_init 24 = .ok (.aload_n 0, 1) := by decide +kernel
theorem dX10_init_25 : decode cX10_init 25 = .ok (.new 13, 3) := by decide +kernel
theorem dX10_init_28 : decode cX10_init 28 = .ok (.dup, 1) := by decide +kernel
theorem dX10_init_29 : decode cX10_init 29 = .ok (.invokespecial 15, 3) := by decide +kernel
theorem dX10_init_32 : decode cX10_init 32 = .ok (.putfield 20, 3) := by decide +kernel
theorem dX10_init_35 : decode cX10_init 35 = .ok (.aload_n 0, 1) := by decide +kernel
theorem dX10_init_36 : decode cX10_init 36 = .ok (.new 23, 3) := by decide +kernel
theorem dX10_init_39 : decode cX10_init 39 = .ok (.dup, 1) := by decide +kernel
theorem dX10_init_40 : decode cX10_init 40 = .ok (.invokespecial 25, 3) := by decide +kernel
theorem dX10_init_43 : decode cX10_init 43 = .ok (.putfield 26, 3) := by decide +kernel
theorem dX10_init_46 : decode cX10_init 46 = .ok (.aload_n 0, 1) := by decide +kernel
theorem dX10_init_47 : decode cX10_init 47 = .ok (.new 30, 3) := by decide +kernel
theorem dX10_init_50 : decode cX10_init 50 = .ok (.dup, 1) := by decide +kernel
theorem dX10_init_51 : decode cX10_init 51 = .ok (.invokespecial 32, 3) := by decide +kernel
theorem dX10_init_54 : decode cX10_init 54 = .ok (.putfield 33, 3) := by decide +kernel
theorem dX10_init_57 : decode cX10_init 57 = .ok (.aload_n 0, 1) := by decide +kernel
theorem dX10_init_58 : decode cX10_init 58 = .ok (.new 30, 3) := by decide +kernel
theorem dX10_init_61 : decode cX10_init 61 = .ok (.dup, 1) := by decide +kernel
theorem dX10_init_62 : decode cX10_init 62 = .ok (.invokespecial 32, 3) := by decide +kernel
theorem dX10_init_65 : decode cX10_init 65 = .ok (.putfield 37, 3) := by decide +kernel
theorem dX10_init_68 : decode cX10_init 68 = .ok (.aload_n 0, 1) := by decide +kernel
theorem dX10_init_69 : decode cX10_init 69 = .ok (.new 30, 3) := by decide +kernel
theorem dX10_init_72 : decode cX10_init 72 = .ok (.dup, 1) := by decide +kernel
theorem dX10_init_73 : decode cX10_init 73 = .ok (.invokespecial 32, 3) := by decide +kernel
theorem dX10_init_76 : decode cX10_init 76 = .ok (.putfield 40, 3) := by decide +kernel
theorem dX10_init_79 : decode cX10_init 79 = .ok (.aload_n 0, 1) := by decide +kernel
theorem dX10_init_80 : decode cX10_init 80 = .ok (.new 43, 3) := by decide +kernel
theorem dX10_init_83 : decode cX10_init 83 = .ok (.dup, 1) := by decide +kernel
theorem dX10_init_84 : decode cX10_init 84 = .ok (.invokespecial 45, 3) := by decide +kernel
theorem dX10_init_87 : decode cX10_init 87 = .ok (.putfield 46, 3) := by decide +kernel
theorem dX10_init_90 : decode cX10_init 90 = .ok (.aload_n 0, 1) := by decide +kernel
theorem dX10_init_91 : decode cX10_init 91 = .ok (.new 50, 3) := by decide +kernel
theorem dX10_init_94 : decode cX10_init 94 = .ok (.dup, 1) := by decide +kernel
theorem dX10_init_95 : decode cX10_init 95 = .ok (.invokespecial 52, 3) := by decide +kernel
theorem dX10_init_98 : decode cX10_init 98 = .ok (.putfield 53, 3) := by decide +kernel
theorem dX10_init_101 : decode cX10_init 101 = .ok (.aload_n 0, 1) := by decide +kernel
theorem dX10_init_102 : decode cX10_init 102 = .ok (.new 57, 3) := by decide +kernel
theorem dX10_init_105 : decode cX10_init 105 = .ok (.dup, 1) := by decide +kernel
theorem dX10_init_106 : decode cX10_init 106 = .ok (.invokespecial 59, 3) := by decide +kernel
theorem dX10_init_109 : decode cX10_init 109 = .ok (.putfield 60, 3) := by decide +kernel
theorem dX10_init_112 : decode cX10_init 112 = .ok (.return_, 1) := by decide +kernel
theorem dX10_feed_0 : decode cX10_feed 0 = .ok (.aload_n 0, 1) := by decide +kernel
theorem dX10_feed_1 : decode cX10_feed 1 = .ok (.getfield 64, 3) := by decide +kernel
theorem dX10_feed_4 : decode cX10_feed 4 = .ok (.bipush 20, 2) := by decide +kernel
theorem dX10_feed_6 : decode cX10_feed 6 = .ok (.iadd, 1) := by decide +kernel
theorem dX10_feed_7 : decode cX10_feed 7 = .ok (.sipush 600, 3) := by decide +kernel
theorem dX10_feed_10 : decode cX10_feed 10 = .ok (.if_icmp .le 9, 3) := by decide +kernel
theorem dX10_feed_13 : decode cX10_feed 13 = .ok (.aload_n 0, 1) := by decide +kernel
theorem dX10_feed_14 : decode cX10_feed 14 = .ok (.iconst 3, 1) := by decide +kernel
theorem dX10_feed_15 : decode cX10_feed 15 = .ok (.invokevirtual 68, 3) := by decide +kernel
theorem dX10_feed_18 : decode cX10_feed 18 = .ok (.ireturn, 1) := by decide +kernel
theorem dX10_feed_19 : decode cX10_feed 19 = .ok (.aload_n 0, 1) := by decide +kernel
theorem dX10_feed_20 : decode cX10_feed 20 = .ok (.iload_n 1, 1) := by decide +kernel
theorem dX10_feed_21 : decode cX10_feed 21 = .ok (.invokevirtual 72, 3) := by decide +kernel
theorem dX10_feed_24 : decode cX10_feed 24 = .ok (.aload_n 0, 1) := by decide +kernel
theorem dX10_feed_25 : decode cX10_feed 25 = .ok (.iload_n 2, 1) := by decide +kernel
theorem dX10_feed_26 : decode cX10_feed 26 = .ok (.invokevirtual 72, 3) := by decide +kernel
theorem dX10_feed_29 : decode cX10_feed 29 = .ok (.aload_n 0, 1) := by decide +kernel
theorem dX10_feed_30 : decode cX10_feed 30 = .ok (.iload_n 3, 1) := by decide +kernel
theorem dX10_feed_31 : decode cX10_feed 31 = .ok (.invokevirtual 72, 3) := by decide +kernel
theorem dX10_feed_34 : decode cX10_feed 34 = .ok (.aload_n 0, 1) := by decide +kernel
theorem dX10_feed_35 : decode cX10_feed 35 = .ok (.iload 4, 2) := by decide +kernel
theorem dX10_feed_37 : decode cX10_feed 37 = .ok (.invokevirtual 72, 3) := by decide +kernel
theorem dX10_feed_40 : decode cX10_feed 40 = .ok (.aload_n 0, 1) := by decide +kernel
theorem dX10_feed_41 : decode cX10_feed 41 = .ok (.iload 5, 2) := by decide +kernel
theorem dX10_feed_43 : decode cX10_feed 43 = .ok (.invokevirtual 72, 3) := by decide +kernel
theorem dX10_feed_46 : decode cX10_feed 46 = .ok (.aload_n 0, 1) := by decide +kernel
theorem dX10_feed_47 : decode cX10_feed 47 = .ok (.aload_n 0, 1) := by decide +kernel
theorem dX10_feed_48 : decode cX10_feed 48 = .ok (.getfield 64, 3) := by decide +kernel
theorem dX10_feed_51 : decode cX10_feed 51 = .ok (.invokevirtual 76, 3) := by decide +kernel
theorem dX10_feed_54 : decode cX10_feed 54 = .ok (.ireturn, 1) := by decide +kernel
theorem dX10_program_0 : decode cX10_program 0 = .ok (.iload_n 1, 1) := by decide +kernel
theorem dX10_program_1 : decode cX10_program 1 = .ok (.ifCond .lt 11, 3) := by decide +kernel
theorem dX10_program_4 : decode cX10_program 4 = .ok (.iload_n 1, 1) := by decide +kernel
theorem dX10_program_5 : decode cX10_program 5 = .ok (.aload_n 0, 1) := by decide +kernel
theorem dX10_program_6 : decode cX10_program 6 = .ok (.getfield 64, 3) := by decide +kernel
theorem dX10_program_9 : decode cX10_program 9 = .ok (.if_icmp .le 9, 3) := by decide +kernel
theorem dX10_program_12 : decode cX10_program 12 = .ok (.aload_n 0, 1) := by decide +kernel
theorem dX10_program_13 : decode cX10_program 13 = .ok (.iconst 2, 1) := by decide +kernel
theorem dX10_program_14 : decode cX10_program 14 = .ok (.invokevirtual 68, 3) := by decide +kernel
theorem dX10_program_17 : decode cX10_program 17 = .ok (.ireturn, 1) := by decide +kernel
theorem dX10_program_18 : decode cX10_program 18 = .ok (.aload_n 0, 1) := by decide +kernel
theorem dX10_program_19 : decode cX10_program 19 = .ok (.iconst 0, 1) := by decide +kernel
theorem dX10_program_20 : decode cX10_program 20 = .ok (.putfield 64, 3) := by decide +kernel
theorem dX10_program_23 : decode cX10_program 23 = .ok (.aload_n 0, 1) := by decide +kernel
theorem dX10_program_24 : decode cX10_program 24 = .ok (.aload_n 0, 1) := by decide +kernel
theorem dX10_program_25 : decode cX10_program 25 = .ok (.getfield 26, 3) := by decide +kernel
theorem dX10_program_28 : decode cX10_program 28 = .ok (.aload_n 0, 1) := by decide +kernel
theorem dX10_program_29 : decode cX10_program 29 = .ok (.getfield 9, 3) := by decide +kernel
theorem dX10_program_32 : decode cX10_program 32 = .ok (.iload_n 1, 1) := by decide +kernel
theorem dX10_program_33 : decode cX10_program 33 = .ok (.aload_n 0, 1) := by decide +kernel
theorem dX10_program_34 : decode cX10_program 34 = .ok (.getfield 20, 3) := by decide +kernel
theorem dX10_program_37 : decode cX10_program 37 = .ok (.invokevirtual 79, 3) := by decide +kernel
theorem dX10_program_40 : decode cX10_program 40 = .ok (.putfield 83, 3) := by decide +kernel
theorem dX10_program_43 : decode cX10_program 43 = .ok (.aload_n 0, 1) := by decide +kernel
theorem dX10_program_44 : decode cX10_program 44 = .ok (.getfield 83, 3) := by decide +kernel
theorem dX10_program_47 : decode cX10_program 47 = .ok (.ifCond .eq 9, 3) := by decide +kernel
theorem dX10_program_50 : decode cX10_program 50 = .ok (.aload_n 0, 1) := by decide +kernel
theorem dX10_program_51 : decode cX10_program 51 = .ok (.iconst 4, 1) := by decide +kernel
theorem dX10_program_52 : decode cX10_program 52 = .ok (.invokevirtual 68, 3) := by decide +kernel
theorem dX10_program_55 : decode cX10_program 55 = .ok (.ireturn, 1) := by decide +kernel
theorem dX10_program_56 : decode cX10_program 56 = .ok (.aload_n 0, 1) := by decide +kernel
theorem dX10_program_57 : decode cX10_program 57 = .ok (.invokevirtual 86, 3) := by decide +kernel
theorem dX10_program_60 : decode cX10_program 60 = .ok (.aload_n 0, 1) := by decide +kernel
theorem dX10_program_61 : decode cX10_program 61 = .ok (.aload_n 0, 1) := by decide +kernel
theorem dX10_program_62 : decode cX10_program 62 = .ok (.getfield 16, 3) := by decide +kernel
theorem dX10_program_65 : decode cX10_program 65 = .ok (.getfield 89, 3) := by decide +kernel
theorem dX10_program_68 : decode cX10_program 68 = .ok (.invokevirtual 76, 3) := by decide +kernel
theorem dX10_program_71 : decode cX10_program 71 = .ok (.ireturn, 1) := by decide +kernel
theorem dX10_fault_0 : decode cX10_fault 0 = .ok (.aload_n 0, 1) := by decide +kernel
theorem dX10_fault_1 : decode cX10_fault 1 = .ok (.getfield 83, 3) := by decide +kernel
theorem dX10_fault_4 : decode cX10_fault 4 = .ok (.ireturn, 1) := by decide +kernel
theorem dX10_where_0 : decode cX10_where 0 = .ok (.aload_n 0, 1) := by decide +kernel
theorem dX10_where_1 : decode cX10_where 1 = .ok (.getfield 92, 3) := by decide +kernel
theorem dX10_where_4 : decode cX10_where 4 = .ok (.iconst 4, 1) := by decide +kernel
theorem dX10_where_5 : decode cX10_where 5 = .ok (.if_icmp .ne 13, 3) := by decide +kernel
theorem dX10_where_8 : decode cX10_where 8 = .ok (.aload_n 0, 1) := by decide +kernel
theorem dX10_where_9 : decode cX10_where 9 = .ok (.getfield 26, 3) := by decide +kernel
theorem dX10_where_12 : decode cX10_where 12 = .ok (.getfield 95, 3) := by decide +kernel
theorem dX10_where_15 : decode cX10_where 15 = .ok (.goto 4, 3) := by decide +kernel
theorem dX10_where_18 : decode cX10_where 18 = .ok (.iconst (-1), 1) := by decide +kernel
theorem dX10_where_19 : decode cX10_where 19 = .ok (.ireturn, 1) := by decide +kernel
theorem dX10_function_0 : decode cX10_function 0 = .ok (.aload_n 0, 1) := by decide +kernel
theorem dX10_function_1 : decode cX10_function 1 = .ok (.getfield 16, 3) := by decide +kernel
theorem dX10_function_4 : decode cX10_function 4 = .ok (.iload_n 1, 1) := by decide +kernel
theorem dX10_function_5 : decode cX10_function 5 = .ok (.invokevirtual 98, 3) := by decide +kernel
theorem dX10_function_8 : decode cX10_function 8 = .ok (.ifCond .ne 5, 3) := by decide +kernel
theorem dX10_function_11 : decode cX10_function 11 = .ok (.iconst (-1), 1) := by decide +kernel
theorem dX10_function_12 : decode cX10_function 12 = .ok (.ireturn, 1) := by decide +kernel
theorem dX10_function_13 : decode cX10_function 13 = .ok (.iload_n 2, 1) := by decide +kernel
theorem dX10_function_14 : decode cX10_function 14 = .ok (.tableswitch 82 0 3 #[30, 43, 56, 69], 30) := by decide +kernel
theorem dX10_function_44 : decode cX10_function 44 = .ok (.aload_n 0, 1) := by decide +kernel
theorem dX10_function_45 : decode cX10_function 45 = .ok (.getfield 16, 3) := by decide +kernel
theorem dX10_function_48 : decode cX10_function 48 = .ok (.getfield 102, 3) := by decide +kernel
theorem dX10_function_51 : decode cX10_function 51 = .ok (.iload_n 1, 1) := by decide +kernel
theorem dX10_function_52 : decode cX10_function 52 = .ok (.aaload, 1) := by decide +kernel
theorem dX10_function_53 : decode cX10_function 53 = .ok (.getfield 106, 3) := by decide +kernel
theorem dX10_function_56 : decode cX10_function 56 = .ok (.ireturn, 1) := by decide +kernel
theorem dX10_function_57 : decode cX10_function 57 = .ok (.aload_n 0, 1) := by decide +kernel
theorem dX10_function_58 : decode cX10_function 58 = .ok (.getfield 16, 3) := by decide +kernel
theorem dX10_function_61 : decode cX10_function 61 = .ok (.getfield 102, 3) := by decide +kernel
theorem dX10_function_64 : decode cX10_function 64 = .ok (.iload_n 1, 1) := by decide +kernel
theorem dX10_function_65 : decode cX10_function 65 = .ok (.aaload, 1) := by decide +kernel
theorem dX10_function_66 : decode cX10_function 66 = .ok (.getfield 111, 3) := by decide +kernel
theorem dX10_function_69 : decode cX10_function 69 = .ok (.ireturn, 1) := by decide +kernel
theorem dX10_function_70 : decode cX10_function 70 = .ok (.aload_n 0, 1) := by decide +kernel
theorem dX10_function_71 : decode cX10_function 71 = .ok (.getfield 16, 3) := by decide +kernel
theorem dX10_function_74 : decode cX10_function 74 = .ok (.getfield 102, 3) := by decide +kernel
theorem dX10_function_77 : decode cX10_function 77 = .ok (.iload_n 1, 1) := by decide +kernel
theorem dX10_function_78 : decode cX10_function 78 = .ok (.aaload, 1) := by decide +kernel
theorem dX10_function_79 : decode cX10_function 79 = .ok (.getfield 114, 3) := by decide +kernel
theorem dX10_function_82 : decode cX10_function 82 = .ok (.ireturn, 1) := by decide +kernel
theorem dX10_function_83 : decode cX10_function 83 = .ok (.aload_n 0, 1) := by decide +kernel
theorem dX10_function_84 : decode cX10_function 84 = .ok (.getfield 16, 3) := by decide +kernel
theorem dX10_function_87 : decode cX10_function 87 = .ok (.getfield 102, 3) := by decide +kernel
theorem dX10_function_90 : decode cX10_function 90 = .ok (.iload_n 1, 1) := by decide +kernel
theorem dX10_function_91 : decode cX10_function 91 = .ok (.aaload, 1) := by decide +kernel
theorem dX10_function_92 : decode cX10_function 92 = .ok (.getfield 117, 3) := by decide +kernel
theorem dX10_function_95 : decode cX10_function 95 = .ok (.ireturn, 1) := by decide +kernel
theorem dX10_function_96 : decode cX10_function 96 = .ok (.iconst (-1), 1) := by decide +kernel
theorem dX10_function_97 : decode cX10_function 97 = .ok (.ireturn, 1) := by decide +kernel
theorem dX10_name_0 : decode cX10_name 0 = .ok (.aload_n 0, 1) := by decide +kernel
theorem dX10_name_1 : decode cX10_name 1 = .ok (.getfield 16, 3) := by decide +kernel
theorem dX10_name_4 : decode cX10_name 4 = .ok (.iload_n 1, 1) := by decide +kernel
theorem dX10_name_5 : decode cX10_name 5 = .ok (.invokevirtual 98, 3) := by decide +kernel
theorem dX10_name_8 : decode cX10_name 8 = .ok (.ifCond .ne 13, 3) := by decide +kernel
theorem dX10_name_11 : decode cX10_name 11 = .ok (.new 120, 3) := by decide +kernel
theorem dX10_name_14 : decode cX10_name 14 = .ok (.dup, 1) := by decide +kernel
theorem dX10_name_15 : decode cX10_name 15 = .ok (.ldc 122, 2) := by decide +kernel
theorem dX10_name_17 : decode cX10_name 17 = .ok (.invokespecial 124, 3) := by decide +kernel
theorem dX10_name_20 : decode cX10_name 20 = .ok (.athrow, 1) := by decide +kernel
theorem dX10_name_21 : decode cX10_name 21 = .ok (.aload_n 0, 1) := by decide +kernel
theorem dX10_name_22 : decode cX10_name 22 = .ok (.getfield 16, 3) := by decide +kernel
theorem dX10_name_25 : decode cX10_name 25 = .ok (.getfield 127, 3) := by decide +kernel
theorem dX10_name_28 : decode cX10_name 28 = .ok (.aload_n 0, 1) := by decide +kernel
theorem dX10_name_29 : decode cX10_name 29 = .ok (.getfield 16, 3) := by decide +kernel
theorem dX10_name_32 : decode cX10_name 32 = .ok (.getfield 102, 3) := by decide +kernel
theorem dX10_name_35 : decode cX10_name 35 = .ok (.iload_n 1, 1) := by decide +kernel
theorem dX10_name_36 : decode cX10_name 36 = .ok (.aaload, 1) := by decide +kernel
theorem dX10_name_37 : decode cX10_name 37 = .ok (.getfield 131, 3) := by decide +kernel
theorem dX10_name_40 : decode cX10_name 40 = .ok (.iload_n 2, 1) := by decide +kernel
theorem dX10_name_41 : decode cX10_name 41 = .ok (.invokevirtual 134, 3) := by decide +kernel
theorem dX10_name_44 : decode cX10_name 44 = .ok (.istore_n 3, 1) := by decide +kernel
theorem dX10_name_45 : decode cX10_name 45 = .ok (.iload_n 3, 1) := by decide +kernel
theorem dX10_name_46 : decode cX10_name 46 = .ok (.iconst (-1), 1) := by decide +kernel
theorem dX10_name_47 : decode cX10_name 47 = .ok (.if_icmp .ne 13, 3) := by decide +kernel
theorem dX10_name_50 : decode cX10_name 50 = .ok (.new 120, 3) := by decide +kernel
theorem dX10_name_53 : decode cX10_name 53 = .ok (.dup, 1) := by decide +kernel
theorem dX10_name_54 : decode cX10_name 54 = .ok (.ldc 140, 2) := by decide +kernel
theorem dX10_name_56 : decode cX10_name 56 = .ok (.invokespecial 124, 3) := by decide +kernel
theorem dX10_name_59 : decode cX10_name 59 = .ok (.athrow, 1) := by decide +kernel
theorem dX10_name_60 : decode cX10_name 60 = .ok (.iload_n 3, 1) := by decide +kernel
theorem dX10_name_61 : decode cX10_name 61 = .ok (.ireturn, 1) := by decide +kernel
theorem dX10_line_0 : decode cX10_line 0 = .ok (.aload_n 0, 1) := by decide +kernel
theorem dX10_line_1 : decode cX10_line 1 = .ok (.getfield 16, 3) := by decide +kernel
theorem dX10_line_4 : decode cX10_line 4 = .ok (.iload_n 1, 1) := by decide +kernel
theorem dX10_line_5 : decode cX10_line 5 = .ok (.invokevirtual 142, 3) := by decide +kernel
theorem dX10_line_8 : decode cX10_line 8 = .ok (.ifCond .ne 5, 3) := by decide +kernel
theorem dX10_line_11 : decode cX10_line 11 = .ok (.iconst (-1), 1) := by decide +kernel
theorem dX10_line_12 : decode cX10_line 12 = .ok (.ireturn, 1) := by decide +kernel
theorem dX10_line_13 : decode cX10_line 13 = .ok (.iload_n 2, 1) := by decide +kernel
theorem dX10_line_14 : decode cX10_line 14 = .ok (.tableswitch 82 0 3 #[30, 43, 56, 69], 30) := by decide +kernel
theorem dX10_line_44 : decode cX10_line 44 = .ok (.aload_n 0, 1) := by decide +kernel
theorem dX10_line_45 : decode cX10_line 45 = .ok (.getfield 16, 3) := by decide +kernel
theorem dX10_line_48 : decode cX10_line 48 = .ok (.getfield 145, 3) := by decide +kernel
theorem dX10_line_51 : decode cX10_line 51 = .ok (.iload_n 1, 1) := by decide +kernel
theorem dX10_line_52 : decode cX10_line 52 = .ok (.aaload, 1) := by decide +kernel
theorem dX10_line_53 : decode cX10_line 53 = .ok (.getfield 149, 3) := by decide +kernel
theorem dX10_line_56 : decode cX10_line 56 = .ok (.ireturn, 1) := by decide +kernel
theorem dX10_line_57 : decode cX10_line 57 = .ok (.aload_n 0, 1) := by decide +kernel
theorem dX10_line_58 : decode cX10_line 58 = .ok (.getfield 16, 3) := by decide +kernel
theorem dX10_line_61 : decode cX10_line 61 = .ok (.getfield 145, 3) := by decide +kernel
theorem dX10_line_64 : decode cX10_line 64 = .ok (.iload_n 1, 1) := by decide +kernel
theorem dX10_line_65 : decode cX10_line 65 = .ok (.aaload, 1) := by decide +kernel
theorem dX10_line_66 : decode cX10_line 66 = .ok (.getfield 154, 3) := by decide +kernel
theorem dX10_line_69 : decode cX10_line 69 = .ok (.ireturn, 1) := by decide +kernel
theorem dX10_line_70 : decode cX10_line 70 = .ok (.aload_n 0, 1) := by decide +kernel
theorem dX10_line_71 : decode cX10_line 71 = .ok (.getfield 16, 3) := by decide +kernel
theorem dX10_line_74 : decode cX10_line 74 = .ok (.getfield 145, 3) := by decide +kernel
theorem dX10_line_77 : decode cX10_line 77 = .ok (.iload_n 1, 1) := by decide +kernel
theorem dX10_line_78 : decode cX10_line 78 = .ok (.aaload, 1) := by decide +kernel
theorem dX10_line_79 : decode cX10_line 79 = .ok (.getfield 157, 3) := by decide +kernel
theorem dX10_line_82 : decode cX10_line 82 = .ok (.ireturn, 1) := by decide +kernel
theorem dX10_line_83 : decode cX10_line 83 = .ok (.aload_n 0, 1) := by decide +kernel
theorem dX10_line_84 : decode cX10_line 84 = .ok (.getfield 16, 3) := by decide +kernel
theorem dX10_line_87 : decode cX10_line 87 = .ok (.getfield 145, 3) := by decide +kernel
theorem dX10_line_90 : decode cX10_line 90 = .ok (.iload_n 1, 1) := by decide +kernel
theorem dX10_line_91 : decode cX10_line 91 = .ok (.aaload, 1) := by decide +kernel
theorem dX10_line_92 : decode cX10_line 92 = .ok (.getfield 160, 3) := by decide +kernel
theorem dX10_line_95 : decode cX10_line 95 = .ok (.ireturn, 1) := by decide +kernel
theorem dX10_line_96 : decode cX10_line 96 = .ok (.iconst (-1), 1) := by decide +kernel
theorem dX10_line_97 : decode cX10_line 97 = .ok (.ireturn, 1) := by decide +kernel
theorem dX10_run_0 : decode cX10_run 0 = .ok (.aload_n 0, 1) := by decide +kernel
theorem dX10_run_1 : decode cX10_run 1 = .ok (.getfield 16, 3) := by decide +kernel
theorem dX10_run_4 : decode cX10_run 4 = .ok (.iload_n 1, 1) := by decide +kernel
theorem dX10_run_5 : decode cX10_run 5 = .ok (.invokevirtual 98, 3) := by decide +kernel
theorem dX10_run_8 : decode cX10_run 8 = .ok (.ifCond .ne 9, 3) := by decide +kernel
theorem dX10_run_11 : decode cX10_run 11 = .ok (.aload_n 0, 1) := by decide +kernel
theorem dX10_run_12 : decode cX10_run 12 = .ok (.iconst 1, 1) := by decide +kernel
theorem dX10_run_13 : decode cX10_run 13 = .ok (.invokevirtual 68, 3) := by decide +kernel
theorem dX10_run_16 : decode cX10_run 16 = .ok (.ireturn, 1) := by decide +kernel
theorem dX10_run_17 : decode cX10_run 17 = .ok (.iload 5, 2) := by decide +kernel
theorem dX10_run_19 : decode cX10_run 19 = .ok (.iconst 1, 1) := by decide +kernel
theorem dX10_run_20 : decode cX10_run 20 = .ok (.if_icmp .lt 11, 3) := by decide +kernel
theorem dX10_run_23 : decode cX10_run 23 = .ok (.iload 5, 2) := by decide +kernel
theorem dX10_run_25 : decode cX10_run 25 = .ok (.sipush 2000, 3) := by decide +kernel
theorem dX10_run_28 : decode cX10_run 28 = .ok (.if_icmp .le 9, 3) := by decide +kernel
theorem dX10_run_31 : decode cX10_run 31 = .ok (.aload_n 0, 1) := by decide +kernel
theorem dX10_run_32 : decode cX10_run 32 = .ok (.iconst 2, 1) := by decide +kernel
theorem dX10_run_33 : decode cX10_run 33 = .ok (.invokevirtual 68, 3) := by decide +kernel
theorem dX10_run_36 : decode cX10_run 36 = .ok (.ireturn, 1) := by decide +kernel
theorem dX10_run_37 : decode cX10_run 37 = .ok (.aload_n 0, 1) := by decide +kernel
theorem dX10_run_38 : decode cX10_run 38 = .ok (.getfield 33, 3) := by decide +kernel
theorem dX10_run_41 : decode cX10_run 41 = .ok (.aload_n 0, 1) := by decide +kernel
theorem dX10_run_42 : decode cX10_run 42 = .ok (.getfield 16, 3) := by decide +kernel
theorem dX10_run_45 : decode cX10_run 45 = .ok (.iload 5, 2) := by decide +kernel
theorem dX10_run_47 : decode cX10_run 47 = .ok (.iconst (-1), 1) := by decide +kernel
theorem dX10_run_48 : decode cX10_run 48 = .ok (.invokevirtual 163, 3) := by decide +kernel
theorem dX10_run_51 : decode cX10_run 51 = .ok (.aload_n 0, 1) := by decide +kernel
theorem dX10_run_52 : decode cX10_run 52 = .ok (.getfield 33, 3) := by decide +kernel
theorem dX10_run_55 : decode cX10_run 55 = .ok (.iload_n 1, 1) := by decide +kernel
theorem dX10_run_56 : decode cX10_run 56 = .ok (.iload_n 2, 1) := by decide +kernel
theorem dX10_run_57 : decode cX10_run 57 = .ok (.iload_n 3, 1) := by decide +kernel
theorem dX10_run_58 : decode cX10_run 58 = .ok (.iload 4, 2) := by decide +kernel
theorem dX10_run_60 : decode cX10_run 60 = .ok (.invokevirtual 167, 3) := by decide +kernel
theorem dX10_run_63 : decode cX10_run 63 = .ok (.aload_n 0, 1) := by decide +kernel
theorem dX10_run_64 : decode cX10_run 64 = .ok (.iconst 1, 1) := by decide +kernel
theorem dX10_run_65 : decode cX10_run 65 = .ok (.putfield 171, 3) := by decide +kernel
theorem dX10_run_68 : decode cX10_run 68 = .ok (.aload_n 0, 1) := by decide +kernel
theorem dX10_run_69 : decode cX10_run 69 = .ok (.aload_n 0, 1) := by decide +kernel
theorem dX10_run_70 : decode cX10_run 70 = .ok (.getfield 33, 3) := by decide +kernel
theorem dX10_run_73 : decode cX10_run 73 = .ok (.getfield 175, 3) := by decide +kernel
theorem dX10_run_76 : decode cX10_run 76 = .ok (.invokevirtual 76, 3) := by decide +kernel
theorem dX10_run_79 : decode cX10_run 79 = .ok (.ireturn, 1) := by decide +kernel
theorem dX10_ran_0 : decode cX10_ran 0 = .ok (.aload_n 0, 1) := by decide +kernel
theorem dX10_ran_1 : decode cX10_ran 1 = .ok (.getfield 171, 3) := by decide +kernel
theorem dX10_ran_4 : decode cX10_ran 4 = .ok (.ifCond .ne 9, 3) := by decide +kernel
theorem dX10_ran_7 : decode cX10_ran 7 = .ok (.aload_n 0, 1) := by decide +kernel
theorem dX10_ran_8 : decode cX10_ran 8 = .ok (.iconst 5, 1) := by decide +kernel
theorem dX10_ran_9 : decode cX10_ran 9 = .ok (.invokevirtual 68, 3) := by decide +kernel
theorem dX10_ran_12 : decode cX10_ran 12 = .ok (.ireturn, 1) := by decide +kernel
theorem dX10_ran_13 : decode cX10_ran 13 = .ok (.iload_n 1, 1) := by decide +kernel
theorem dX10_ran_14 : decode cX10_ran 14 = .ok (.tableswitch 113 0 5 #[38, 50, 62, 74, 86, 101], 38) := by decide +kernel
theorem dX10_ran_52 : decode cX10_ran 52 = .ok (.aload_n 0, 1) := by decide +kernel
theorem dX10_ran_53 : decode cX10_ran 53 = .ok (.aload_n 0, 1) := by decide +kernel
theorem dX10_ran_54 : decode cX10_ran 54 = .ok (.getfield 33, 3) := by decide +kernel
theorem dX10_ran_57 : decode cX10_ran 57 = .ok (.getfield 178, 3) := by decide +kernel
theorem dX10_ran_60 : decode cX10_ran 60 = .ok (.invokevirtual 76, 3) := by decide +kernel
theorem dX10_ran_63 : decode cX10_ran 63 = .ok (.ireturn, 1) := by decide +kernel
theorem dX10_ran_64 : decode cX10_ran 64 = .ok (.aload_n 0, 1) := by decide +kernel
theorem dX10_ran_65 : decode cX10_ran 65 = .ok (.aload_n 0, 1) := by decide +kernel
theorem dX10_ran_66 : decode cX10_ran 66 = .ok (.getfield 33, 3) := by decide +kernel
theorem dX10_ran_69 : decode cX10_ran 69 = .ok (.getfield 181, 3) := by decide +kernel
theorem dX10_ran_72 : decode cX10_ran 72 = .ok (.invokevirtual 76, 3) := by decide +kernel
theorem dX10_ran_75 : decode cX10_ran 75 = .ok (.ireturn, 1) := by decide +kernel
theorem dX10_ran_76 : decode cX10_ran 76 = .ok (.aload_n 0, 1) := by decide +kernel
theorem dX10_ran_77 : decode cX10_ran 77 = .ok (.aload_n 0, 1) := by decide +kernel
theorem dX10_ran_78 : decode cX10_ran 78 = .ok (.getfield 33, 3) := by decide +kernel
theorem dX10_ran_81 : decode cX10_ran 81 = .ok (.getfield 184, 3) := by decide +kernel
theorem dX10_ran_84 : decode cX10_ran 84 = .ok (.invokevirtual 76, 3) := by decide +kernel
theorem dX10_ran_87 : decode cX10_ran 87 = .ok (.ireturn, 1) := by decide +kernel
theorem dX10_ran_88 : decode cX10_ran 88 = .ok (.aload_n 0, 1) := by decide +kernel
theorem dX10_ran_89 : decode cX10_ran 89 = .ok (.aload_n 0, 1) := by decide +kernel
theorem dX10_ran_90 : decode cX10_ran 90 = .ok (.getfield 33, 3) := by decide +kernel
theorem dX10_ran_93 : decode cX10_ran 93 = .ok (.getfield 187, 3) := by decide +kernel
theorem dX10_ran_96 : decode cX10_ran 96 = .ok (.invokevirtual 76, 3) := by decide +kernel
theorem dX10_ran_99 : decode cX10_ran 99 = .ok (.ireturn, 1) := by decide +kernel
theorem dX10_ran_100 : decode cX10_ran 100 = .ok (.aload_n 0, 1) := by decide +kernel
theorem dX10_ran_101 : decode cX10_ran 101 = .ok (.aload_n 0, 1) := by decide +kernel
theorem dX10_ran_102 : decode cX10_ran 102 = .ok (.getfield 33, 3) := by decide +kernel
theorem dX10_ran_105 : decode cX10_ran 105 = .ok (.getfield 190, 3) := by decide +kernel
theorem dX10_ran_108 : decode cX10_ran 108 = .ok (.invokestatic 194, 3) := by decide +kernel
theorem dX10_ran_111 : decode cX10_ran 111 = .ok (.invokevirtual 76, 3) := by decide +kernel
theorem dX10_ran_114 : decode cX10_ran 114 = .ok (.ireturn, 1) := by decide +kernel
theorem dX10_ran_115 : decode cX10_ran 115 = .ok (.aload_n 0, 1) := by decide +kernel
theorem dX10_ran_116 : decode cX10_ran 116 = .ok (.aload_n 0, 1) := by decide +kernel
theorem dX10_ran_117 : decode cX10_ran 117 = .ok (.getfield 33, 3) := by decide +kernel
theorem dX10_ran_120 : decode cX10_ran 120 = .ok (.getfield 200, 3) := by decide +kernel
theorem dX10_ran_123 : decode cX10_ran 123 = .ok (.invokevirtual 76, 3) := by decide +kernel
theorem dX10_ran_126 : decode cX10_ran 126 = .ok (.ireturn, 1) := by decide +kernel
theorem dX10_ran_127 : decode cX10_ran 127 = .ok (.aload_n 0, 1) := by decide +kernel
theorem dX10_ran_128 : decode cX10_ran 128 = .ok (.iconst 2, 1) := by decide +kernel
theorem dX10_ran_129 : decode cX10_ran 129 = .ok (.invokevirtual 68, 3) := by decide +kernel
theorem dX10_ran_132 : decode cX10_ran 132 = .ok (.ireturn, 1) := by decide +kernel
theorem dX10_said_0 : decode cX10_said 0 = .ok (.aload_n 0, 1) := by decide +kernel
theorem dX10_said_1 : decode cX10_said 1 = .ok (.getfield 171, 3) := by decide +kernel
theorem dX10_said_4 : decode cX10_said 4 = .ok (.ifCond .eq 14, 3) := by decide +kernel
theorem dX10_said_7 : decode cX10_said 7 = .ok (.aload_n 0, 1) := by decide +kernel
theorem dX10_said_8 : decode cX10_said 8 = .ok (.getfield 33, 3) := by decide +kernel
theorem dX10_said_11 : decode cX10_said 11 = .ok (.iload_n 1, 1) := by decide +kernel
theorem dX10_said_12 : decode cX10_said 12 = .ok (.invokevirtual 203, 3) := by decide +kernel
theorem dX10_said_15 : decode cX10_said 15 = .ok (.ifCond .ne 13, 3) := by decide +kernel
theorem dX10_said_18 : decode cX10_said 18 = .ok (.new 120, 3) := by decide +kernel
theorem dX10_said_21 : decode cX10_said 21 = .ok (.dup, 1) := by decide +kernel
theorem dX10_said_22 : decode cX10_said 22 = .ok (.ldc 206, 2) := by decide +kernel
theorem dX10_said_24 : decode cX10_said 24 = .ok (.invokespecial 124, 3) := by decide +kernel
theorem dX10_said_27 : decode cX10_said 27 = .ok (.athrow, 1) := by decide +kernel
theorem dX10_said_28 : decode cX10_said 28 = .ok (.aload_n 0, 1) := by decide +kernel
theorem dX10_said_29 : decode cX10_said 29 = .ok (.getfield 33, 3) := by decide +kernel
theorem dX10_said_32 : decode cX10_said 32 = .ok (.iload_n 1, 1) := by decide +kernel
theorem dX10_said_33 : decode cX10_said 33 = .ok (.invokevirtual 208, 3) := by decide +kernel
theorem dX10_said_36 : decode cX10_said 36 = .ok (.ireturn, 1) := by decide +kernel
theorem dX10_trace_0 : decode cX10_trace 0 = .ok (.aload_n 0, 1) := by decide +kernel
theorem dX10_trace_1 : decode cX10_trace 1 = .ok (.getfield 171, 3) := by decide +kernel
theorem dX10_trace_4 : decode cX10_trace 4 = .ok (.ifCond .eq 15, 3) := by decide +kernel
theorem dX10_trace_7 : decode cX10_trace 7 = .ok (.aload_n 0, 1) := by decide +kernel
theorem dX10_trace_8 : decode cX10_trace 8 = .ok (.getfield 33, 3) := by decide +kernel
theorem dX10_trace_11 : decode cX10_trace 11 = .ok (.iload_n 1, 1) := by decide +kernel
theorem dX10_trace_12 : decode cX10_trace 12 = .ok (.iload_n 2, 1) := by decide +kernel
theorem dX10_trace_13 : decode cX10_trace 13 = .ok (.invokevirtual 211, 3) := by decide +kernel
theorem dX10_trace_16 : decode cX10_trace 16 = .ok (.ifCond .ne 13, 3) := by decide +kernel
theorem dX10_trace_19 : decode cX10_trace 19 = .ok (.new 120, 3) := by decide +kernel
theorem dX10_trace_22 : decode cX10_trace 22 = .ok (.dup, 1) := by decide +kernel
theorem dX10_trace_23 : decode cX10_trace 23 = .ok (.ldc 215, 2) := by decide +kernel
theorem dX10_trace_25 : decode cX10_trace 25 = .ok (.invokespecial 124, 3) := by decide +kernel
theorem dX10_trace_28 : decode cX10_trace 28 = .ok (.athrow, 1) := by decide +kernel
theorem dX10_trace_29 : decode cX10_trace 29 = .ok (.aload_n 0, 1) := by decide +kernel
theorem dX10_trace_30 : decode cX10_trace 30 = .ok (.getfield 33, 3) := by decide +kernel
theorem dX10_trace_33 : decode cX10_trace 33 = .ok (.iload_n 1, 1) := by decide +kernel
theorem dX10_trace_34 : decode cX10_trace 34 = .ok (.iload_n 2, 1) := by decide +kernel
theorem dX10_trace_35 : decode cX10_trace 35 = .ok (.invokevirtual 217, 3) := by decide +kernel
theorem dX10_trace_38 : decode cX10_trace 38 = .ok (.ireturn, 1) := by decide +kernel
theorem dX10_covered_0 : decode cX10_covered 0 = .ok (.aload_n 0, 1) := by decide +kernel
theorem dX10_covered_1 : decode cX10_covered 1 = .ok (.getfield 171, 3) := by decide +kernel
theorem dX10_covered_4 : decode cX10_covered 4 = .ok (.ifCond .eq 14, 3) := by decide +kernel
theorem dX10_covered_7 : decode cX10_covered 7 = .ok (.aload_n 0, 1) := by decide +kernel
theorem dX10_covered_8 : decode cX10_covered 8 = .ok (.getfield 16, 3) := by decide +kernel
theorem dX10_covered_11 : decode cX10_covered 11 = .ok (.iload_n 1, 1) := by decide +kernel
theorem dX10_covered_12 : decode cX10_covered 12 = .ok (.invokevirtual 142, 3) := by decide +kernel
theorem dX10_covered_15 : decode cX10_covered 15 = .ok (.ifCond .ne 5, 3) := by decide +kernel
theorem dX10_covered_18 : decode cX10_covered 18 = .ok (.iconst (-1), 1) := by decide +kernel
theorem dX10_covered_19 : decode cX10_covered 19 = .ok (.ireturn, 1) := by decide +kernel
theorem dX10_covered_20 : decode cX10_covered 20 = .ok (.aload_n 0, 1) := by decide +kernel
theorem dX10_covered_21 : decode cX10_covered 21 = .ok (.getfield 33, 3) := by decide +kernel
theorem dX10_covered_24 : decode cX10_covered 24 = .ok (.getfield 190, 3) := by decide +kernel
theorem dX10_covered_27 : decode cX10_covered 27 = .ok (.iload_n 1, 1) := by decide +kernel
theorem dX10_covered_28 : decode cX10_covered 28 = .ok (.lshr, 1) := by decide +kernel
theorem dX10_covered_29 : decode cX10_covered 29 = .ok (.lconst 1, 1) := by decide +kernel
theorem dX10_covered_30 : decode cX10_covered 30 = .ok (.land, 1) := by decide +kernel
theorem dX10_covered_31 : decode cX10_covered 31 = .ok (.lconst 0, 1) := by decide +kernel
theorem dX10_covered_32 : decode cX10_covered 32 = .ok (.lcmp, 1) := by decide +kernel
theorem dX10_covered_33 : decode cX10_covered 33 = .ok (.ifCond .eq 7, 3) := by decide +kernel
theorem dX10_covered_36 : decode cX10_covered 36 = .ok (.iconst 1, 1) := by decide +kernel
theorem dX10_covered_37 : decode cX10_covered 37 = .ok (.goto 4, 3) := by decide +kernel
theorem dX10_covered_40 : decode cX10_covered 40 = .ok (.iconst 0, 1) := by decide +kernel
theorem dX10_covered_41 : decode cX10_covered 41 = .ok (.ireturn, 1) := by decide +kernel
theorem dX10_place_0 : decode cX10_place 0 = .ok (.aload_n 0, 1) := by decide +kernel
theorem dX10_place_1 : decode cX10_place 1 = .ok (.getfield 171, 3) := by decide +kernel
theorem dX10_place_4 : decode cX10_place 4 = .ok (.ifCond .ne 9, 3) := by decide +kernel
theorem dX10_place_7 : decode cX10_place 7 = .ok (.aload_n 0, 1) := by decide +kernel
theorem dX10_place_8 : decode cX10_place 8 = .ok (.iconst 5, 1) := by decide +kernel
theorem dX10_place_9 : decode cX10_place 9 = .ok (.invokevirtual 68, 3) := by decide +kernel
theorem dX10_place_12 : decode cX10_place 12 = .ok (.ireturn, 1) := by decide +kernel
theorem dX10_place_13 : decode cX10_place 13 = .ok (.iload_n 1, 1) := by decide +kernel
theorem dX10_place_14 : decode cX10_place 14 = .ok (.ifCond .lt 9, 3) := by decide +kernel
theorem dX10_place_17 : decode cX10_place 17 = .ok (.iload_n 1, 1) := by decide +kernel
theorem dX10_place_18 : decode cX10_place 18 = .ok (.bipush 8, 2) := by decide +kernel
theorem dX10_place_20 : decode cX10_place 20 = .ok (.if_icmp .lt 9, 3) := by decide +kernel
theorem dX10_place_23 : decode cX10_place 23 = .ok (.aload_n 0, 1) := by decide +kernel
theorem dX10_place_24 : decode cX10_place 24 = .ok (.iconst 2, 1) := by decide +kernel
theorem dX10_place_25 : decode cX10_place 25 = .ok (.invokevirtual 68, 3) := by decide +kernel
theorem dX10_place_28 : decode cX10_place 28 = .ok (.ireturn, 1) := by decide +kernel
theorem dX10_place_29 : decode cX10_place 29 = .ok (.aload_n 0, 1) := by decide +kernel
theorem dX10_place_30 : decode cX10_place 30 = .ok (.aload_n 0, 1) := by decide +kernel
theorem dX10_place_31 : decode cX10_place 31 = .ok (.getfield 33, 3) := by decide +kernel
theorem dX10_place_34 : decode cX10_place 34 = .ok (.iload_n 1, 1) := by decide +kernel
theorem dX10_place_35 : decode cX10_place 35 = .ok (.invokevirtual 220, 3) := by decide +kernel
theorem dX10_place_38 : decode cX10_place 38 = .ok (.invokevirtual 76, 3) := by decide +kernel
theorem dX10_place_41 : decode cX10_place 41 = .ok (.ireturn, 1) := by decide +kernel
theorem dX10_wrong_0 : decode cX10_wrong 0 = .ok (.aload_n 0, 1) := by decide +kernel
theorem dX10_wrong_1 : decode cX10_wrong 1 = .ok (.getfield 16, 3) := by decide +kernel
theorem dX10_wrong_4 : decode cX10_wrong 4 = .ok (.iload_n 2, 1) := by decide +kernel
theorem dX10_wrong_5 : decode cX10_wrong 5 = .ok (.invokevirtual 98, 3) := by decide +kernel
theorem dX10_wrong_8 : decode cX10_wrong 8 = .ok (.ifCond .ne 9, 3) := by decide +kernel
theorem dX10_wrong_11 : decode cX10_wrong 11 = .ok (.aload_n 0, 1) := by decide +kernel
theorem dX10_wrong_12 : decode cX10_wrong 12 = .ok (.iconst 1, 1) := by decide +kernel
theorem dX10_wrong_13 : decode cX10_wrong 13 = .ok (.invokevirtual 68, 3) := by decide +kernel
theorem dX10_wrong_16 : decode cX10_wrong 16 = .ok (.ireturn, 1) := by decide +kernel
theorem dX10_wrong_17 : decode cX10_wrong 17 = .ok (.iload_n 1, 1) := by decide +kernel
theorem dX10_wrong_18 : decode cX10_wrong 18 = .ok (.ifCond .lt 8, 3) := by decide +kernel
theorem dX10_wrong_21 : decode cX10_wrong 21 = .ok (.iload_n 1, 1) := by decide +kernel
theorem dX10_wrong_22 : decode cX10_wrong 22 = .ok (.iconst 4, 1) := by decide +kernel
theorem dX10_wrong_23 : decode cX10_wrong 23 = .ok (.if_icmp .lt 9, 3) := by decide +kernel
theorem dX10_wrong_26 : decode cX10_wrong 26 = .ok (.aload_n 0, 1) := by decide +kernel
theorem dX10_wrong_27 : decode cX10_wrong 27 = .ok (.iconst 2, 1) := by decide +kernel
theorem dX10_wrong_28 : decode cX10_wrong 28 = .ok (.invokevirtual 68, 3) := by decide +kernel
theorem dX10_wrong_31 : decode cX10_wrong 31 = .ok (.ireturn, 1) := by decide +kernel
theorem dX10_wrong_32 : decode cX10_wrong 32 = .ok (.aload_n 0, 1) := by decide +kernel
theorem dX10_wrong_33 : decode cX10_wrong 33 = .ok (.getfield 40, 3) := by decide +kernel
theorem dX10_wrong_36 : decode cX10_wrong 36 = .ok (.aload_n 0, 1) := by decide +kernel
theorem dX10_wrong_37 : decode cX10_wrong 37 = .ok (.getfield 16, 3) := by decide +kernel
theorem dX10_wrong_40 : decode cX10_wrong 40 = .ok (.sipush 2000, 3) := by decide +kernel
theorem dX10_wrong_43 : decode cX10_wrong 43 = .ok (.iload_n 1, 1) := by decide +kernel
theorem dX10_wrong_44 : decode cX10_wrong 44 = .ok (.invokevirtual 163, 3) := by decide +kernel
theorem dX10_wrong_47 : decode cX10_wrong 47 = .ok (.aload_n 0, 1) := by decide +kernel
theorem dX10_wrong_48 : decode cX10_wrong 48 = .ok (.getfield 40, 3) := by decide +kernel
theorem dX10_wrong_51 : decode cX10_wrong 51 = .ok (.iload_n 2, 1) := by decide +kernel
theorem dX10_wrong_52 : decode cX10_wrong 52 = .ok (.iload_n 3, 1) := by decide +kernel
theorem dX10_wrong_53 : decode cX10_wrong 53 = .ok (.iload 4, 2) := by decide +kernel
theorem dX10_wrong_55 : decode cX10_wrong 55 = .ok (.iload 5, 2) := by decide +kernel
theorem dX10_wrong_57 : decode cX10_wrong 57 = .ok (.invokevirtual 167, 3) := by decide +kernel
theorem dX10_wrong_60 : decode cX10_wrong 60 = .ok (.aload_n 0, 1) := by decide +kernel
theorem dX10_wrong_61 : decode cX10_wrong 61 = .ok (.aload_n 0, 1) := by decide +kernel
theorem dX10_wrong_62 : decode cX10_wrong 62 = .ok (.getfield 40, 3) := by decide +kernel
theorem dX10_wrong_65 : decode cX10_wrong 65 = .ok (.getfield 178, 3) := by decide +kernel
theorem dX10_wrong_68 : decode cX10_wrong 68 = .ok (.invokevirtual 76, 3) := by decide +kernel
theorem dX10_wrong_71 : decode cX10_wrong 71 = .ok (.ireturn, 1) := by decide +kernel
theorem dX10_unlike_0 : decode cX10_unlike 0 = .ok (.aload_n 0, 1) := by decide +kernel
theorem dX10_unlike_1 : decode cX10_unlike 1 = .ok (.getfield 16, 3) := by decide +kernel
theorem dX10_unlike_4 : decode cX10_unlike 4 = .ok (.iload_n 1, 1) := by decide +kernel
theorem dX10_unlike_5 : decode cX10_unlike 5 = .ok (.invokevirtual 98, 3) := by decide +kernel
theorem dX10_unlike_8 : decode cX10_unlike 8 = .ok (.ifCond .ne 9, 3) := by decide +kernel
theorem dX10_unlike_11 : decode cX10_unlike 11 = .ok (.aload_n 0, 1) := by decide +kernel
theorem dX10_unlike_12 : decode cX10_unlike 12 = .ok (.iconst 1, 1) := by decide +kernel
theorem dX10_unlike_13 : decode cX10_unlike 13 = .ok (.invokevirtual 68, 3) := by decide +kernel
theorem dX10_unlike_16 : decode cX10_unlike 16 = .ok (.ireturn, 1) := by decide +kernel
theorem dX10_unlike_17 : decode cX10_unlike 17 = .ok (.aload_n 0, 1) := by decide +kernel
theorem dX10_unlike_18 : decode cX10_unlike 18 = .ok (.getfield 37, 3) := by decide +kernel
theorem dX10_unlike_21 : decode cX10_unlike 21 = .ok (.aload_n 0, 1) := by decide +kernel
theorem dX10_unlike_22 : decode cX10_unlike 22 = .ok (.getfield 16, 3) := by decide +kernel
theorem dX10_unlike_25 : decode cX10_unlike 25 = .ok (.sipush 2000, 3) := by decide +kernel
theorem dX10_unlike_28 : decode cX10_unlike 28 = .ok (.iconst (-1), 1) := by decide +kernel
theorem dX10_unlike_29 : decode cX10_unlike 29 = .ok (.invokevirtual 163, 3) := by decide +kernel
theorem dX10_unlike_32 : decode cX10_unlike 32 = .ok (.aload_n 0, 1) := by decide +kernel
theorem dX10_unlike_33 : decode cX10_unlike 33 = .ok (.getfield 37, 3) := by decide +kernel
theorem dX10_unlike_36 : decode cX10_unlike 36 = .ok (.iload_n 1, 1) := by decide +kernel
theorem dX10_unlike_37 : decode cX10_unlike 37 = .ok (.iload_n 2, 1) := by decide +kernel
theorem dX10_unlike_38 : decode cX10_unlike 38 = .ok (.iload_n 3, 1) := by decide +kernel
theorem dX10_unlike_39 : decode cX10_unlike 39 = .ok (.iload 4, 2) := by decide +kernel
theorem dX10_unlike_41 : decode cX10_unlike 41 = .ok (.invokevirtual 167, 3) := by decide +kernel
theorem dX10_unlike_44 : decode cX10_unlike 44 = .ok (.iconst 0, 1) := by decide +kernel
theorem dX10_unlike_45 : decode cX10_unlike 45 = .ok (.istore 5, 2) := by decide +kernel
theorem dX10_unlike_47 : decode cX10_unlike 47 = .ok (.iconst 0, 1) := by decide +kernel
theorem dX10_unlike_48 : decode cX10_unlike 48 = .ok (.istore 6, 2) := by decide +kernel
theorem dX10_unlike_50 : decode cX10_unlike 50 = .ok (.iload 6, 2) := by decide +kernel
theorem dX10_unlike_52 : decode cX10_unlike 52 = .ok (.iconst 4, 1) := by decide +kernel
theorem dX10_unlike_53 : decode cX10_unlike 53 = .ok (.if_icmp .ge 54, 3) := by decide +kernel
theorem dX10_unlike_56 : decode cX10_unlike 56 = .ok (.aload_n 0, 1) := by decide +kernel
theorem dX10_unlike_57 : decode cX10_unlike 57 = .ok (.getfield 40, 3) := by decide +kernel
theorem dX10_unlike_60 : decode cX10_unlike 60 = .ok (.aload_n 0, 1) := by decide +kernel
theorem dX10_unlike_61 : decode cX10_unlike 61 = .ok (.getfield 16, 3) := by decide +kernel
theorem dX10_unlike_64 : decode cX10_unlike 64 = .ok (.sipush 2000, 3) := by decide +kernel
theorem dX10_unlike_67 : decode cX10_unlike 67 = .ok (.iload 6, 2) := by decide +kernel
theorem dX10_unlike_69 : decode cX10_unlike 69 = .ok (.invokevirtual 163, 3) := by decide +kernel
theorem dX10_unlike_72 : decode cX10_unlike 72 = .ok (.aload_n 0, 1) := by decide +kernel
theorem dX10_unlike_73 : decode cX10_unlike 73 = .ok (.getfield 40, 3) := by decide +kernel
theorem dX10_unlike_76 : decode cX10_unlike 76 = .ok (.iload_n 1, 1) := by decide +kernel
theorem dX10_unlike_77 : decode cX10_unlike 77 = .ok (.iload_n 2, 1) := by decide +kernel
theorem dX10_unlike_78 : decode cX10_unlike 78 = .ok (.iload_n 3, 1) := by decide +kernel
theorem dX10_unlike_79 : decode cX10_unlike 79 = .ok (.iload 4, 2) := by decide +kernel
theorem dX10_unlike_81 : decode cX10_unlike 81 = .ok (.invokevirtual 167, 3) := by decide +kernel
theorem dX10_unlike_84 : decode cX10_unlike 84 = .ok (.aload_n 0, 1) := by decide +kernel
theorem dX10_unlike_85 : decode cX10_unlike 85 = .ok (.getfield 40, 3) := by decide +kernel
theorem dX10_unlike_88 : decode cX10_unlike 88 = .ok (.aload_n 0, 1) := by decide +kernel
theorem dX10_unlike_89 : decode cX10_unlike 89 = .ok (.getfield 37, 3) := by decide +kernel
theorem dX10_unlike_92 : decode cX10_unlike 92 = .ok (.invokevirtual 223, 3) := by decide +kernel
theorem dX10_unlike_95 : decode cX10_unlike 95 = .ok (.ifCond .ne 6, 3) := by decide +kernel
theorem dX10_unlike_98 : decode cX10_unlike 98 = .ok (.iinc 5 1, 3) := by decide +kernel
theorem dX10_unlike_101 : decode cX10_unlike 101 = .ok (.iinc 6 1, 3) := by decide +kernel
theorem dX10_unlike_104 : decode cX10_unlike 104 = .ok (.goto (-54), 3) := by decide +kernel
theorem dX10_unlike_107 : decode cX10_unlike 107 = .ok (.aload_n 0, 1) := by decide +kernel
theorem dX10_unlike_108 : decode cX10_unlike 108 = .ok (.iload 5, 2) := by decide +kernel
theorem dX10_unlike_110 : decode cX10_unlike 110 = .ok (.invokevirtual 76, 3) := by decide +kernel
theorem dX10_unlike_113 : decode cX10_unlike 113 = .ok (.ireturn, 1) := by decide +kernel
theorem dX10_order_0 : decode cX10_order 0 = .ok (.aload_n 0, 1) := by decide +kernel
theorem dX10_order_1 : decode cX10_order 1 = .ok (.getfield 16, 3) := by decide +kernel
theorem dX10_order_4 : decode cX10_order 4 = .ok (.getfield 89, 3) := by decide +kernel
theorem dX10_order_7 : decode cX10_order 7 = .ok (.ifCond .ne 6, 3) := by decide +kernel
theorem dX10_order_10 : decode cX10_order 10 = .ok (.bipush (-2), 2) := by decide +kernel
theorem dX10_order_12 : decode cX10_order 12 = .ok (.ireturn, 1) := by decide +kernel
theorem dX10_order_13 : decode cX10_order 13 = .ok (.aload_n 0, 1) := by decide +kernel
theorem dX10_order_14 : decode cX10_order 14 = .ok (.getfield 46, 3) := by decide +kernel
theorem dX10_order_17 : decode cX10_order 17 = .ok (.aload_n 0, 1) := by decide +kernel
theorem dX10_order_18 : decode cX10_order 18 = .ok (.getfield 16, 3) := by decide +kernel
theorem dX10_order_21 : decode cX10_order 21 = .ok (.invokevirtual 227, 3) := by decide +kernel
theorem dX10_order_24 : decode cX10_order 24 = .ok (.ireturn, 1) := by decide +kernel
theorem dX10_chapter_0 : decode cX10_chapter 0 = .ok (.aload_n 0, 1) := by decide +kernel
theorem dX10_chapter_1 : decode cX10_chapter 1 = .ok (.getfield 16, 3) := by decide +kernel
theorem dX10_chapter_4 : decode cX10_chapter 4 = .ok (.iload_n 1, 1) := by decide +kernel
theorem dX10_chapter_5 : decode cX10_chapter 5 = .ok (.invokevirtual 98, 3) := by decide +kernel
theorem dX10_chapter_8 : decode cX10_chapter 8 = .ok (.ifCond .ne 5, 3) := by decide +kernel
theorem dX10_chapter_11 : decode cX10_chapter 11 = .ok (.iconst (-1), 1) := by decide +kernel
theorem dX10_chapter_12 : decode cX10_chapter 12 = .ok (.ireturn, 1) := by decide +kernel
theorem dX10_chapter_13 : decode cX10_chapter 13 = .ok (.aload_n 0, 1) := by decide +kernel
theorem dX10_chapter_14 : decode cX10_chapter 14 = .ok (.getfield 46, 3) := by decide +kernel
theorem dX10_chapter_17 : decode cX10_chapter 17 = .ok (.aload_n 0, 1) := by decide +kernel
theorem dX10_chapter_18 : decode cX10_chapter 18 = .ok (.getfield 16, 3) := by decide +kernel
theorem dX10_chapter_21 : decode cX10_chapter 21 = .ok (.iload_n 1, 1) := by decide +kernel
theorem dX10_chapter_22 : decode cX10_chapter 22 = .ok (.invokevirtual 231, 3) := by decide +kernel
theorem dX10_chapter_25 : decode cX10_chapter 25 = .ok (.ireturn, 1) := by decide +kernel
theorem dX10_tell_0 : decode cX10_tell 0 = .ok (.aload_n 0, 1) := by decide +kernel
theorem dX10_tell_1 : decode cX10_tell 1 = .ok (.getfield 16, 3) := by decide +kernel
theorem dX10_tell_4 : decode cX10_tell 4 = .ok (.iload_n 1, 1) := by decide +kernel
theorem dX10_tell_5 : decode cX10_tell 5 = .ok (.invokevirtual 98, 3) := by decide +kernel
theorem dX10_tell_8 : decode cX10_tell 8 = .ok (.ifCond .ne 9, 3) := by decide +kernel
theorem dX10_tell_11 : decode cX10_tell 11 = .ok (.aload_n 0, 1) := by decide +kernel
theorem dX10_tell_12 : decode cX10_tell 12 = .ok (.iconst 1, 1) := by decide +kernel
theorem dX10_tell_13 : decode cX10_tell 13 = .ok (.invokevirtual 68, 3) := by decide +kernel
theorem dX10_tell_16 : decode cX10_tell 16 = .ok (.ireturn, 1) := by decide +kernel
theorem dX10_tell_17 : decode cX10_tell 17 = .ok (.aload_n 0, 1) := by decide +kernel
theorem dX10_tell_18 : decode cX10_tell 18 = .ok (.getfield 53, 3) := by decide +kernel
theorem dX10_tell_21 : decode cX10_tell 21 = .ok (.invokevirtual 235, 3) := by decide +kernel
theorem dX10_tell_24 : decode cX10_tell 24 = .ok (.ifCond .eq 9, 3) := by decide +kernel
theorem dX10_tell_27 : decode cX10_tell 27 = .ok (.aload_n 0, 1) := by decide +kernel
theorem dX10_tell_28 : decode cX10_tell 28 = .ok (.iconst 3, 1) := by decide +kernel
theorem dX10_tell_29 : decode cX10_tell 29 = .ok (.invokevirtual 68, 3) := by decide +kernel
theorem dX10_tell_32 : decode cX10_tell 32 = .ok (.ireturn, 1) := by decide +kernel
theorem dX10_tell_33 : decode cX10_tell 33 = .ok (.aload_n 0, 1) := by decide +kernel
theorem dX10_tell_34 : decode cX10_tell 34 = .ok (.getfield 40, 3) := by decide +kernel
theorem dX10_tell_37 : decode cX10_tell 37 = .ok (.aload_n 0, 1) := by decide +kernel
theorem dX10_tell_38 : decode cX10_tell 38 = .ok (.getfield 16, 3) := by decide +kernel
theorem dX10_tell_41 : decode cX10_tell 41 = .ok (.sipush 2000, 3) := by decide +kernel
theorem dX10_tell_44 : decode cX10_tell 44 = .ok (.iconst (-1), 1) := by decide +kernel
theorem dX10_tell_45 : decode cX10_tell 45 = .ok (.invokevirtual 163, 3) := by decide +kernel
theorem dX10_tell_48 : decode cX10_tell 48 = .ok (.aload_n 0, 1) := by decide +kernel
theorem dX10_tell_49 : decode cX10_tell 49 = .ok (.getfield 40, 3) := by decide +kernel
theorem dX10_tell_52 : decode cX10_tell 52 = .ok (.iload_n 1, 1) := by decide +kernel
theorem dX10_tell_53 : decode cX10_tell 53 = .ok (.iload_n 2, 1) := by decide +kernel
theorem dX10_tell_54 : decode cX10_tell 54 = .ok (.iload_n 3, 1) := by decide +kernel
theorem dX10_tell_55 : decode cX10_tell 55 = .ok (.iload 4, 2) := by decide +kernel
theorem dX10_tell_57 : decode cX10_tell 57 = .ok (.invokevirtual 167, 3) := by decide +kernel
theorem dX10_tell_60 : decode cX10_tell 60 = .ok (.aload_n 0, 1) := by decide +kernel
theorem dX10_tell_61 : decode cX10_tell 61 = .ok (.aload_n 0, 1) := by decide +kernel
theorem dX10_tell_62 : decode cX10_tell 62 = .ok (.getfield 53, 3) := by decide +kernel
theorem dX10_tell_65 : decode cX10_tell 65 = .ok (.aload_n 0, 1) := by decide +kernel
theorem dX10_tell_66 : decode cX10_tell 66 = .ok (.getfield 40, 3) := by decide +kernel
theorem dX10_tell_69 : decode cX10_tell 69 = .ok (.getfield 190, 3) := by decide +kernel
theorem dX10_tell_72 : decode cX10_tell 72 = .ok (.invokevirtual 239, 3) := by decide +kernel
theorem dX10_tell_75 : decode cX10_tell 75 = .ok (.invokevirtual 76, 3) := by decide +kernel
theorem dX10_tell_78 : decode cX10_tell 78 = .ok (.ireturn, 1) := by decide +kernel
theorem dX10_shown_0 : decode cX10_shown 0 = .ok (.aload_n 0, 1) := by decide +kernel
theorem dX10_shown_1 : decode cX10_shown 1 = .ok (.getfield 53, 3) := by decide +kernel
theorem dX10_shown_4 : decode cX10_shown 4 = .ok (.invokevirtual 242, 3) := by decide +kernel
theorem dX10_shown_7 : decode cX10_shown 7 = .ok (.invokestatic 194, 3) := by decide +kernel
theorem dX10_shown_10 : decode cX10_shown 10 = .ok (.ireturn, 1) := by decide +kernel
theorem dX10_fewest_0 : decode cX10_fewest 0 = .ok (.aload_n 0, 1) := by decide +kernel
theorem dX10_fewest_1 : decode cX10_fewest 1 = .ok (.getfield 53, 3) := by decide +kernel
theorem dX10_fewest_4 : decode cX10_fewest 4 = .ok (.invokevirtual 246, 3) := by decide +kernel
theorem dX10_fewest_7 : decode cX10_fewest 7 = .ok (.ireturn, 1) := by decide +kernel
theorem dX10_picked_0 : decode cX10_picked 0 = .ok (.aload_n 0, 1) := by decide +kernel
theorem dX10_picked_1 : decode cX10_picked 1 = .ok (.getfield 53, 3) := by decide +kernel
theorem dX10_picked_4 : decode cX10_picked 4 = .ok (.iload_n 1, 1) := by decide +kernel
theorem dX10_picked_5 : decode cX10_picked 5 = .ok (.invokevirtual 250, 3) := by decide +kernel
theorem dX10_picked_8 : decode cX10_picked 8 = .ok (.ireturn, 1) := by decide +kernel
theorem dX10_anew_0 : decode cX10_anew 0 = .ok (.aload_n 0, 1) := by decide +kernel
theorem dX10_anew_1 : decode cX10_anew 1 = .ok (.getfield 16, 3) := by decide +kernel
theorem dX10_anew_4 : decode cX10_anew 4 = .ok (.iload_n 1, 1) := by decide +kernel
theorem dX10_anew_5 : decode cX10_anew 5 = .ok (.invokevirtual 98, 3) := by decide +kernel
theorem dX10_anew_8 : decode cX10_anew 8 = .ok (.ifCond .ne 5, 3) := by decide +kernel
theorem dX10_anew_11 : decode cX10_anew 11 = .ok (.iconst (-1), 1) := by decide +kernel
theorem dX10_anew_12 : decode cX10_anew 12 = .ok (.ireturn, 1) := by decide +kernel
theorem dX10_anew_13 : decode cX10_anew 13 = .ok (.aload_n 0, 1) := by decide +kernel
theorem dX10_anew_14 : decode cX10_anew 14 = .ok (.getfield 60, 3) := by decide +kernel
theorem dX10_anew_17 : decode cX10_anew 17 = .ok (.iload_n 1, 1) := by decide +kernel
theorem dX10_anew_18 : decode cX10_anew 18 = .ok (.invokevirtual 253, 3) := by decide +kernel
theorem dX10_anew_21 : decode cX10_anew 21 = .ok (.ireturn, 1) := by decide +kernel
theorem dX10_gone_0 : decode cX10_gone 0 = .ok (.aload_n 0, 1) := by decide +kernel
theorem dX10_gone_1 : decode cX10_gone 1 = .ok (.getfield 60, 3) := by decide +kernel
theorem dX10_gone_4 : decode cX10_gone 4 = .ok (.getfield 256, 3) := by decide +kernel
theorem dX10_gone_7 : decode cX10_gone 7 = .ok (.ireturn, 1) := by decide +kernel
theorem dX10_count_0 : decode cX10_count 0 = .ok (.iload_n 1, 1) := by decide +kernel
theorem dX10_count_1 : decode cX10_count 1 = .ok (.tableswitch 60 0 3 #[31, 39, 47, 55], 31) := by decide +kernel
theorem dX10_count_32 : decode cX10_count 32 = .ok (.aload_n 0, 1) := by decide +kernel
theorem dX10_count_33 : decode cX10_count 33 = .ok (.getfield 16, 3) := by decide +kernel
theorem dX10_count_36 : decode cX10_count 36 = .ok (.getfield 89, 3) := by decide +kernel
theorem dX10_count_39 : decode cX10_count 39 = .ok (.ireturn, 1) := by decide +kernel
theorem dX10_count_40 : decode cX10_count 40 = .ok (.aload_n 0, 1) := by decide +kernel
theorem dX10_count_41 : decode cX10_count 41 = .ok (.getfield 16, 3) := by decide +kernel
theorem dX10_count_44 : decode cX10_count 44 = .ok (.getfield 259, 3) := by decide +kernel
theorem dX10_count_47 : decode cX10_count 47 = .ok (.ireturn, 1) := by decide +kernel
theorem dX10_count_48 : decode cX10_count 48 = .ok (.aload_n 0, 1) := by decide +kernel
theorem dX10_count_49 : decode cX10_count 49 = .ok (.getfield 53, 3) := by decide +kernel
theorem dX10_count_52 : decode cX10_count 52 = .ok (.getfield 260, 3) := by decide +kernel
theorem dX10_count_55 : decode cX10_count 55 = .ok (.ireturn, 1) := by decide +kernel
theorem dX10_count_56 : decode cX10_count 56 = .ok (.aload_n 0, 1) := by decide +kernel
theorem dX10_count_57 : decode cX10_count 57 = .ok (.getfield 64, 3) := by decide +kernel
theorem dX10_count_60 : decode cX10_count 60 = .ok (.ireturn, 1) := by decide +kernel
theorem dX10_count_61 : decode cX10_count 61 = .ok (.iconst (-1), 1) := by decide +kernel
theorem dX10_count_62 : decode cX10_count 62 = .ok (.ireturn, 1) := by decide +kernel
theorem dX10_trouble_0 : decode cX10_trouble 0 = .ok (.aload_n 0, 1) := by decide +kernel
theorem dX10_trouble_1 : decode cX10_trouble 1 = .ok (.getfield 92, 3) := by decide +kernel
theorem dX10_trouble_4 : decode cX10_trouble 4 = .ok (.ireturn, 1) := by decide +kernel
theorem dX10_refuse_0 : decode cX10_refuse 0 = .ok (.aload_n 0, 1) := by decide +kernel
theorem dX10_refuse_1 : decode cX10_refuse 1 = .ok (.iload_n 1, 1) := by decide +kernel
theorem dX10_refuse_2 : decode cX10_refuse 2 = .ok (.putfield 92, 3) := by decide +kernel
theorem dX10_refuse_5 : decode cX10_refuse 5 = .ok (.iconst (-1), 1) := by decide +kernel
theorem dX10_refuse_6 : decode cX10_refuse 6 = .ok (.ireturn, 1) := by decide +kernel
theorem dX10_accept_0 : decode cX10_accept 0 = .ok (.aload_n 0, 1) := by decide +kernel
theorem dX10_accept_1 : decode cX10_accept 1 = .ok (.iconst 0, 1) := by decide +kernel
theorem dX10_accept_2 : decode cX10_accept 2 = .ok (.putfield 92, 3) := by decide +kernel
theorem dX10_accept_5 : decode cX10_accept 5 = .ok (.iload_n 1, 1) := by decide +kernel
theorem dX10_accept_6 : decode cX10_accept 6 = .ok (.ireturn, 1) := by decide +kernel
theorem dX10_feedNumber_0 : decode cX10_feedNumber 0 = .ok (.bipush 24, 2) := by decide +kernel
theorem dX10_feedNumber_2 : decode cX10_feedNumber 2 = .ok (.istore_n 2, 1) := by decide +kernel
theorem dX10_feedNumber_3 : decode cX10_feedNumber 3 = .ok (.iload_n 2, 1) := by decide +kernel
theorem dX10_feedNumber_4 : decode cX10_feedNumber 4 = .ok (.ifCond .lt 51, 3) := by decide +kernel
theorem dX10_feedNumber_7 : decode cX10_feedNumber 7 = .ok (.aload_n 0, 1) := by decide +kernel
theorem dX10_feedNumber_8 : decode cX10_feedNumber 8 = .ok (.getfield 64, 3) := by decide +kernel
theorem dX10_feedNumber_11 : decode cX10_feedNumber 11 = .ok (.ifCond .lt 38, 3) := by decide +kernel
theorem dX10_feedNumber_14 : decode cX10_feedNumber 14 = .ok (.aload_n 0, 1) := by decide +kernel
theorem dX10_feedNumber_15 : decode cX10_feedNumber 15 = .ok (.getfield 64, 3) := by decide +kernel
theorem dX10_feedNumber_18 : decode cX10_feedNumber 18 = .ok (.aload_n 0, 1) := by decide +kernel
theorem dX10_feedNumber_19 : decode cX10_feedNumber 19 = .ok (.getfield 9, 3) := by decide +kernel
theorem dX10_feedNumber_22 : decode cX10_feedNumber 22 = .ok (.arraylength, 1) := by decide +kernel
theorem dX10_feedNumber_23 : decode cX10_feedNumber 23 = .ok (.if_icmp .ge 26, 3) := by decide +kernel
theorem dX10_feedNumber_26 : decode cX10_feedNumber 26 = .ok (.aload_n 0, 1) := by decide +kernel
theorem dX10_feedNumber_27 : decode cX10_feedNumber 27 = .ok (.getfield 9, 3) := by decide +kernel
theorem dX10_feedNumber_30 : decode cX10_feedNumber 30 = .ok (.aload_n 0, 1) := by decide +kernel
theorem dX10_feedNumber_31 : decode cX10_feedNumber 31 = .ok (.getfield 64, 3) := by decide +kernel
theorem dX10_feedNumber_34 : decode cX10_feedNumber 34 = .ok (.iload_n 1, 1) := by decide +kernel
theorem dX10_feedNumber_35 : decode cX10_feedNumber 35 = .ok (.iload_n 2, 1) := by decide +kernel
theorem dX10_feedNumber_36 : decode cX10_feedNumber 36 = .ok (.ishr, 1) := by decide +kernel
theorem dX10_feedNumber_37 : decode cX10_feedNumber 37 = .ok (.i2b, 1) := by decide +kernel
theorem dX10_feedNumber_38 : decode cX10_feedNumber 38 = .ok (.bastore, 1) := by decide +kernel
theorem dX10_feedNumber_39 : decode cX10_feedNumber 39 = .ok (.aload_n 0, 1) := by decide +kernel
theorem dX10_feedNumber_40 : decode cX10_feedNumber 40 = .ok (.dup, 1) := by decide +kernel
theorem dX10_feedNumber_41 : decode cX10_feedNumber 41 = .ok (.getfield 64, 3) := by decide +kernel
theorem dX10_feedNumber_44 : decode cX10_feedNumber 44 = .ok (.iconst 1, 1) := by decide +kernel
theorem dX10_feedNumber_45 : decode cX10_feedNumber 45 = .ok (.iadd, 1) := by decide +kernel
theorem dX10_feedNumber_46 : decode cX10_feedNumber 46 = .ok (.putfield 64, 3) := by decide +kernel
theorem dX10_feedNumber_49 : decode cX10_feedNumber 49 = .ok (.iinc 2 (-8), 3) := by decide +kernel
theorem dX10_feedNumber_52 : decode cX10_feedNumber 52 = .ok (.goto (-49), 3) := by decide +kernel
theorem dX10_feedNumber_55 : decode cX10_feedNumber 55 = .ok (.return_, 1) := by decide +kernel
theorem dX10_turnToSpare_0 : decode cX10_turnToSpare 0 = .ok (.aload_n 0, 1) := by decide +kernel
theorem dX10_turnToSpare_1 : decode cX10_turnToSpare 1 = .ok (.getfield 16, 3) := by decide +kernel
theorem dX10_turnToSpare_4 : decode cX10_turnToSpare 4 = .ok (.astore_n 1, 1) := by decide +kernel
theorem dX10_turnToSpare_5 : decode cX10_turnToSpare 5 = .ok (.aload_n 0, 1) := by decide +kernel
theorem dX10_turnToSpare_6 : decode cX10_turnToSpare 6 = .ok (.aload_n 0, 1) := by decide +kernel
theorem dX10_turnToSpare_7 : decode cX10_turnToSpare 7 = .ok (.getfield 20, 3) := by decide +kernel
theorem dX10_turnToSpare_10 : decode cX10_turnToSpare 10 = .ok (.putfield 16, 3) := by decide +kernel
theorem dX10_turnToSpare_13 : decode cX10_turnToSpare 13 = .ok (.aload_n 0, 1) := by decide +kernel
theorem dX10_turnToSpare_14 : decode cX10_turnToSpare 14 = .ok (.aload_n 1, 1) := by decide +kernel
theorem dX10_turnToSpare_15 : decode cX10_turnToSpare 15 = .ok (.putfield 20, 3) := by decide +kernel
theorem dX10_turnToSpare_18 : decode cX10_turnToSpare 18 = .ok (.aload_n 0, 1) := by decide +kernel
theorem dX10_turnToSpare_19 : decode cX10_turnToSpare 19 = .ok (.iconst 0, 1) := by decide +kernel
theorem dX10_turnToSpare_20 : decode cX10_turnToSpare 20 = .ok (.putfield 171, 3) := by decide +kernel
theorem dX10_turnToSpare_23 : decode cX10_turnToSpare 23 = .ok (.aload_n 0, 1) := by decide +kernel
theorem dX10_turnToSpare_24 : decode cX10_turnToSpare 24 = .ok (.getfield 53, 3) := by decide +kernel
theorem dX10_turnToSpare_27 : decode cX10_turnToSpare 27 = .ok (.invokevirtual 263, 3) := by decide +kernel
theorem dX10_turnToSpare_30 : decode cX10_turnToSpare 30 = .ok (.aload_n 0, 1) := by decide +kernel
theorem dX10_turnToSpare_31 : decode cX10_turnToSpare 31 = .ok (.getfield 46, 3) := by decide +kernel
theorem dX10_turnToSpare_34 : decode cX10_turnToSpare 34 = .ok (.invokevirtual 266, 3) := by decide +kernel
theorem dX10_turnToSpare_37 : decode cX10_turnToSpare 37 = .ok (.aload_n 0, 1) := by decide +kernel
theorem dX10_turnToSpare_38 : decode cX10_turnToSpare 38 = .ok (.getfield 60, 3) := by decide +kernel
theorem dX10_turnToSpare_41 : decode cX10_turnToSpare 41 = .ok (.aload_n 1, 1) := by decide +kernel
theorem dX10_turnToSpare_42 : decode cX10_turnToSpare 42 = .ok (.aload_n 0, 1) := by decide +kernel
theorem dX10_turnToSpare_43 : decode cX10_turnToSpare 43 = .ok (.getfield 16, 3) := by decide +kernel
theorem dX10_turnToSpare_46 : decode cX10_turnToSpare 46 = .ok (.invokevirtual 267, 3) := by decide +kernel
theorem dX10_turnToSpare_49 : decode cX10_turnToSpare 49 = .ok (.return_, 1) := by decide +kernel
theorem dX11_init_0 : decode cX11_init 0 = .ok (.aload_n 0, 1) := by decide +kernel
theorem dX11_init_1 : decode cX11_init 1 = .ok (.invokespecial 3, 3) := by decide +kernel
theorem dX11_init_4 : decode cX11_init 4 = .ok (.aload_n 0, 1) := by decide +kernel
theorem dX11_init_5 : decode cX11_init 5 = .ok (.bipush 10, 2) := by decide +kernel
theorem dX11_init_7 : decode cX11_init 7 = .ok (.newarray .long, 2) := by decide +kernel
theorem dX11_init_9 : decode cX11_init 9 = .ok (.putfield 9, 3) := by decide +kernel
theorem dX11_init_12 : decode cX11_init 12 = .ok (.aload_n 0, 1) := by decide +kernel
theorem dX11_init_13 : decode cX11_init 13 = .ok (.bipush 10, 2) := by decide +kernel
theorem dX11_init_15 : decode cX11_init 15 = .ok (.newarray .int, 2) := by decide +kernel
theorem dX11_init_17 : decode cX11_init 17 = .ok (.putfield 15, 3) := by decide +kernel
theorem dX11_init_20 : decode cX11_init 20 = .ok (.aload_n 0, 1) := by decide +kernel
theorem dX11_init_21 : decode cX11_init 21 = .ok (.bipush 10, 2) := by decide +kernel
theorem dX11_init_23 : decode cX11_init 23 = .ok (.newarray .int, 2) := by decide +kernel
theorem dX11_init_25 : decode cX11_init 25 = .ok (.putfield 19, 3) := by decide +kernel
theorem dX11_init_28 : decode cX11_init 28 = .ok (.aload_n 0, 1) := by decide +kernel
theorem dX11_init_29 : decode cX11_init 29 = .ok (.bipush 10, 2) := by decide +kernel
theorem dX11_init_31 : decode cX11_init 31 = .ok (.newarray .int, 2) := by decide +kernel
theorem dX11_init_33 : decode cX11_init 33 = .ok (.putfield 22, 3) := by decide +kernel
theorem dX11_init_36 : decode cX11_init 36 = .ok (.aload_n 0, 1) := by decide +kernel
theorem dX11_init_37 : decode cX11_init 37 = .ok (.bipush 10, 2) := by decide +kernel
theorem dX11_init_39 : decode cX11_init 39 = .ok (.newarray .int, 2) := by decide +kernel
theorem dX11_init_41 : decode cX11_init 41 = .ok (.putfield 25, 3) := by decide +kernel
theorem dX11_init_44 : decode cX11_init 44 = .ok (.aload_n 0, 1) := by decide +kernel
theorem dX11_init_45 : decode cX11_init 45 = .ok (.bipush 10, 2) := by decide +kernel
theorem dX11_init_47 : decode cX11_init 47 = .ok (.newarray .int, 2) := by decide +kernel
theorem dX11_init_49 : decode cX11_init 49 = .ok (.putfield 28, 3) := by decide +kernel
theorem dX11_init_52 : decode cX11_init 52 = .ok (.aload_n 0, 1) := by decide +kernel
theorem dX11_init_53 : decode cX11_init 53 = .ok (.bipush 10, 2) := by decide +kernel
theorem dX11_init_55 : decode cX11_init 55 = .ok (.newarray .int, 2) := by decide +kernel
theorem dX11_init_57 : decode cX11_init 57 = .ok (.putfield 31, 3) := by decide +kernel
theorem dX11_init_60 : decode cX11_init 60 = .ok (.aload_n 0, 1) := by decide +kernel
theorem dX11_init_61 : decode cX11_init 61 = .ok (.bipush 10, 2) := by decide +kernel
theorem dX11_init_63 : decode cX11_init 63 = .ok (.newarray .int, 2) := by decide +kernel
theorem dX11_init_65 : decode cX11_init 65 = .ok (.putfield 34, 3) := by decide +kernel
theorem dX11_init_68 : decode cX11_init 68 = .ok (.aload_n 0, 1) := by decide +kernel
theorem dX11_init_69 : decode cX11_init 69 = .ok (.bipush 30, 2) := by decide +kernel
theorem dX11_init_71 : decode cX11_init 71 = .ok (.newarray .int, 2) := by decide +kernel
theorem dX11_init_73 : decode cX11_init 73 = .ok (.putfield 37, 3) := by decide +kernel
theorem dX11_init_76 : decode cX11_init 76 = .ok (.aload_n 0, 1) := by decide +kernel
theorem dX11_init_77 : decode cX11_init 77 = .ok (.bipush 60, 2) := by decide +kernel
theorem dX11_init_79 : decode cX11_init 79 = .ok (.newarray .int, 2) := by decide +kernel
theorem dX11_init_81 : decode cX11_init 81 = .ok (.putfield 40, 3) := by decide +kernel
theorem dX11_init_84 : decode cX11_init 84 = .ok (.aload_n 0, 1) := by decide +kernel
theorem dX11_init_85 : decode cX11_init 85 = .ok (.bipush 60, 2) := by decide +kernel
theorem dX11_init_87 : decode cX11_init 87 = .ok (.newarray .int, 2) := by decide +kernel
theorem dX11_init_89 : decode cX11_init 89 = .ok (.putfield 43, 3) := by decide +kernel
theorem dX11_init_92 : decode cX11_init 92 = .ok (.aload_n 0, 1) := by decide +kernel
theorem dX11_init_93 : decode cX11_init 93 = .ok (.bipush 60, 2) := by decide +kernel
theorem dX11_init_95 : decode cX11_init 95 = .ok (.newarray .int, 2) := by decide +kernel
theorem dX11_init_97 : decode cX11_init 97 = .ok (.putfield 46, 3) := by decide +kernel
theorem dX11_init_100 : decode cX11_init 100 = .ok (.aload_n 0, 1) := by decide +kernel
theorem dX11_init_101 : decode cX11_init 101 = .ok (.bipush 60, 2) := by decide +kernel
theorem dX11_init_103 : decode cX11_init 103 = .ok (.newarray .int, 2) := by decide +kernel
theorem dX11_init_105 : decode cX11_init 105 = .ok (.putfield 49, 3) := by decide +kernel
theorem dX11_init_108 : decode cX11_init 108 = .ok (.aload_n 0, 1) := by decide +kernel
theorem dX11_init_109 : decode cX11_init 109 = .ok (.bipush 60, 2) := by decide +kernel
theorem dX11_init_111 : decode cX11_init 111 = .ok (.newarray .int, 2) := by decide +kernel
theorem dX11_init_113 : decode cX11_init 113 = .ok (.putfield 52, 3) := by decide +kernel
theorem dX11_init_116 : decode cX11_init 116 = .ok (.aload_n 0, 1) := by decide +kernel
theorem dX11_init_117 : decode cX11_init 117 = .ok (.bipush 60, 2) := by decide +kernel
theorem dX11_init_119 : decode cX11_init 119 = .ok (.newarray .int, 2) := by decide +kernel
theorem dX11_init_121 : decode cX11_init 121 = .ok (.putfield 55, 3) := by decide +kernel
theorem dX11_init_124 : decode cX11_init 124 = .ok (.aload_n 0, 1) := by decide +kernel
theorem dX11_init_125 : decode cX11_init 125 = .ok (.bipush 60, 2) := by decide +kernel
theorem dX11_init_127 : decode cX11_init 127 = .ok (.newarray .int, 2) := by decide +kernel
theorem dX11_init_129 : decode cX11_init 129 = .ok (.putfield 58, 3) := by decide +kernel
theorem dX11_init_132 : decode cX11_init 132 = .ok (.aload_n 0, 1) := by decide +kernel
theorem dX11_init_133 : decode cX11_init 133 = .ok (.bipush 60, 2) := by decide +kernel
theorem dX11_init_135 : decode cX11_init 135 = .ok (.newarray .int, 2) := by decide +kernel
theorem dX11_init_137 : decode cX11_init 137 = .ok (.putfield 61, 3) := by decide +kernel
theorem dX11_init_140 : decode cX11_init 140 = .ok (.aload_n 0, 1) := by decide +kernel
theorem dX11_init_141 : decode cX11_init 141 = .ok (.bipush 60, 2) := by decide +kernel
theorem dX11_init_143 : decode cX11_init 143 = .ok (.newarray .int, 2) := by decide +kernel
theorem dX11_init_145 : decode cX11_init 145 = .ok (.putfield 64, 3) := by decide +kernel
theorem dX11_init_148 : decode cX11_init 148 = .ok (.aload_n 0, 1) := by decide +kernel
theorem dX11_init_149 : decode cX11_init 149 = .ok (.bipush 60, 2) := by decide +kernel
theorem dX11_init_151 : decode cX11_init 151 = .ok (.newarray .int, 2) := by decide +kernel
theorem dX11_init_153 : decode cX11_init 153 = .ok (.putfield 67, 3) := by decide +kernel
theorem dX11_init_156 : decode cX11_init 156 = .ok (.aload_n 0, 1) := by decide +kernel
theorem dX11_init_157 : decode cX11_init 157 = .ok (.bipush 60, 2) := by decide +kernel
theorem dX11_init_159 : decode cX11_init 159 = .ok (.newarray .int, 2) := by decide +kernel
theorem dX11_init_161 : decode cX11_init 161 = .ok (.putfield 70, 3) := by decide +kernel
theorem dX11_init_164 : decode cX11_init 164 = .ok (.aload_n 0, 1) := by decide +kernel
theorem dX11_init_165 : decode cX11_init 165 = .ok (.sipush 620, 3) := by decide +kernel
theorem dX11_init_168 : decode cX11_init 168 = .ok (.newarray .int, 2) := by decide +kernel
theorem dX11_init_170 : decode cX11_init 170 = .ok (.putfield 73, 3) := by decide +kernel
theorem dX11_init_173 : decode cX11_init 173 = .ok (.aload_n 0, 1) := by decide +kernel
theorem dX11_init_174 : decode cX11_init 174 = .ok (.sipush 620, 3) := by decide +kernel
theorem dX11_init_177 : decode cX11_init 177 = .ok (.newarray .int, 2) := by decide +kernel
theorem dX11_init_179 : decode cX11_init 179 = .ok (.putfield 76, 3) := by decide +kernel
theorem dX11_init_182 : decode cX11_init 182 = .ok (.aload_n 0, 1) := by decide +kernel
theorem dX11_init_183 : decode cX11_init 183 = .ok (.sipush 620, 3) := by decide +kernel
theorem dX11_init_186 : decode cX11_init 186 = .ok (.newarray .int, 2) := by decide +kernel
theorem dX11_init_188 : decode cX11_init 188 = .ok (.putfield 79, 3) := by decide +kernel
theorem dX11_init_191 : decode cX11_init 191 = .ok (.aload_n 0, 1) := by decide +kernel
theorem dX11_init_192 : decode cX11_init 192 = .ok (.sipush 620, 3) := by decide +kernel
theorem dX11_init_195 : decode cX11_init 195 = .ok (.newarray .int, 2) := by decide +kernel
theorem dX11_init_197 : decode cX11_init 197 = .ok (.putfield 82, 3) := by decide +kernel
theorem dX11_init_200 : decode cX11_init 200 = .ok (.aload_n 0, 1) := by decide +kernel
theorem dX11_init_201 : decode cX11_init 201 = .ok (.sipush 620, 3) := by decide +kernel
theorem dX11_init_204 : decode cX11_init 204 = .ok (.newarray .long, 2) := by decide +kernel
theorem dX11_init_206 : decode cX11_init 206 = .ok (.putfield 85, 3) := by decide +kernel
theorem dX11_init_209 : decode cX11_init 209 = .ok (.aload_n 0, 1) := by decide +kernel
theorem dX11_init_210 : decode cX11_init 210 = .ok (.sipush 1201, 3) := by decide +kernel
theorem dX11_init_213 : decode cX11_init 213 = .ok (.newarray .byte, 2) := by decide +kernel
theorem dX11_init_215 : decode cX11_init 215 = .ok (.putfield 88, 3) := by decide +kernel
theorem dX11_init_218 : decode cX11_init 218 = .ok (.return_, 1) := by decide +kernel
theorem dX11_find_0 : decode cX11_find 0 = .ok (.iconst 0, 1) := by decide +kernel
theorem dX11_find_1 : decode cX11_find 1 = .ok (.istore_n 3, 1) := by decide +kernel
theorem dX11_find_2 : decode cX11_find 2 = .ok (.iload_n 3, 1) := by decide +kernel
theorem dX11_find_3 : decode cX11_find 3 = .ok (.aload_n 0, 1) := by decide +kernel
theorem dX11_find_4 : decode cX11_find 4 = .ok (.getfield 92, 3) := by decide +kernel
theorem dX11_find_7 : decode cX11_find 7 = .ok (.if_icmp .ge 20, 3) := by decide +kernel
theorem dX11_find_10 : decode cX11_find 10 = .ok (.aload_n 0, 1) := by decide +kernel
theorem dX11_find_11 : decode cX11_find 11 = .ok (.getfield 9, 3) := by decide +kernel
theorem dX11_find_14 : decode cX11_find 14 = .ok (.iload_n 3, 1) := by decide +kernel
theorem dX11_find_15 : decode cX11_find 15 = .ok (.laload, 1) := by decide +kernel
theorem dX11_find_16 : decode cX11_find 16 = .ok (.lload_n 1, 1) := by decide +kernel
theorem dX11_find_17 : decode cX11_find 17 = .ok (.lcmp, 1) := by decide +kernel
theorem dX11_find_18 : decode cX11_find 18 = .ok (.ifCond .eq 9, 3) := by decide +kernel
theorem dX11_find_21 : decode cX11_find 21 = .ok (.iinc 3 1, 3) := by decide +kernel
theorem dX11_find_24 : decode cX11_find 24 = .ok (.goto (-22), 3) := by decide +kernel
theorem dX11_find_27 : decode cX11_find 27 = .ok (.iload_n 3, 1) := by decide +kernel
theorem dX11_find_28 : decode cX11_find 28 = .ok (.aload_n 0, 1) := by decide +kernel
theorem dX11_find_29 : decode cX11_find 29 = .ok (.getfield 92, 3) := by decide +kernel
theorem dX11_find_32 : decode cX11_find 32 = .ok (.if_icmp .ge 7, 3) := by decide +kernel
theorem dX11_find_35 : decode cX11_find 35 = .ok (.iload_n 3, 1) := by decide +kernel
theorem dX11_find_36 : decode cX11_find 36 = .ok (.goto 4, 3) := by decide +kernel
theorem dX11_find_39 : decode cX11_find 39 = .ok (.iconst (-1), 1) := by decide +kernel
theorem dX11_find_40 : decode cX11_find 40 = .ok (.ireturn, 1) := by decide +kernel
theorem dX11_put_0 : decode cX11_put 0 = .ok (.aload_n 0, 1) := by decide +kernel
theorem dX11_put_1 : decode cX11_put 1 = .ok (.getfield 73, 3) := by decide +kernel
theorem dX11_put_4 : decode cX11_put 4 = .ok (.aload_n 0, 1) := by decide +kernel
theorem dX11_put_5 : decode cX11_put 5 = .ok (.getfield 96, 3) := by decide +kernel
theorem dX11_put_8 : decode cX11_put 8 = .ok (.iload_n 1, 1) := by decide +kernel
theorem dX11_put_9 : decode cX11_put 9 = .ok (.iastore, 1) := by decide +kernel
theorem dX11_put_10 : decode cX11_put 10 = .ok (.aload_n 0, 1) := by decide +kernel
theorem dX11_put_11 : decode cX11_put 11 = .ok (.getfield 76, 3) := by decide +kernel
theorem dX11_put_14 : decode cX11_put 14 = .ok (.aload_n 0, 1) := by decide +kernel
theorem dX11_put_15 : decode cX11_put 15 = .ok (.getfield 96, 3) := by decide +kernel
theorem dX11_put_18 : decode cX11_put 18 = .ok (.iload_n 2, 1) := by decide +kernel
theorem dX11_put_19 : decode cX11_put 19 = .ok (.iastore, 1) := by decide +kernel
theorem dX11_put_20 : decode cX11_put 20 = .ok (.aload_n 0, 1) := by decide +kernel
theorem dX11_put_21 : decode cX11_put 21 = .ok (.dup, 1) := by decide +kernel
theorem dX11_put_22 : decode cX11_put 22 = .ok (.getfield 96, 3) := by decide +kernel
theorem dX11_put_25 : decode cX11_put 25 = .ok (.iconst 1, 1) := by decide +kernel
theorem dX11_put_26 : decode cX11_put 26 = .ok (.iadd, 1) := by decide +kernel
theorem dX11_put_27 : decode cX11_put 27 = .ok (.putfield 96, 3) := by decide +kernel
theorem dX11_put_30 : decode cX11_put 30 = .ok (.return_, 1) := by decide +kernel
theorem dX11_isSame_0 : decode cX11_isSame 0 = .ok (.aload_n 0, 1) := by decide +kernel
theorem dX11_isSame_1 : decode cX11_isSame 1 = .ok (.getfield 34, 3) := by decide +kernel
theorem dX11_isSame_4 : decode cX11_isSame 4 = .ok (.iload_n 1, 1) := by decide +kernel
theorem dX11_isSame_5 : decode cX11_isSame 5 = .ok (.iaload, 1) := by decide +kernel
theorem dX11_isSame_6 : decode cX11_isSame 6 = .ok (.aload_n 0, 1) := by decide +kernel
theorem dX11_isSame_7 : decode cX11_isSame 7 = .ok (.getfield 31, 3) := by decide +kernel
theorem dX11_isSame_10 : decode cX11_isSame 10 = .ok (.iload_n 1, 1) := by decide +kernel
theorem dX11_isSame_11 : decode cX11_isSame 11 = .ok (.iaload, 1) := by decide +kernel
theorem dX11_isSame_12 : decode cX11_isSame 12 = .ok (.isub, 1) := by decide +kernel
theorem dX11_isSame_13 : decode cX11_isSame 13 = .ok (.istore 4, 2) := by decide +kernel
theorem dX11_isSame_15 : decode cX11_isSame 15 = .ok (.iload 4, 2) := by decide +kernel
theorem dX11_isSame_17 : decode cX11_isSame 17 = .ok (.aload_n 2, 1) := by decide +kernel
theorem dX11_isSame_18 : decode cX11_isSame 18 = .ok (.getfield 34, 3) := by decide +kernel
theorem dX11_isSame_21 : decode cX11_isSame 21 = .ok (.iload_n 3, 1) := by decide +kernel
theorem dX11_isSame_22 : decode cX11_isSame 22 = .ok (.iaload, 1) := by decide +kernel
theorem dX11_isSame_23 : decode cX11_isSame 23 = .ok (.aload_n 2, 1) := by decide +kernel
theorem dX11_isSame_24 : decode cX11_isSame 24 = .ok (.getfield 31, 3) := by decide +kernel
theorem dX11_isSame_27 : decode cX11_isSame 27 = .ok (.iload_n 3, 1) := by decide +kernel
theorem dX11_isSame_28 : decode cX11_isSame 28 = .ok (.iaload, 1) := by decide +kernel
theorem dX11_isSame_29 : decode cX11_isSame 29 = .ok (.isub, 1) := by decide +kernel
theorem dX11_isSame_30 : decode cX11_isSame 30 = .ok (.if_icmp .ne 7, 3) := by decide +kernel
theorem dX11_isSame_33 : decode cX11_isSame 33 = .ok (.iconst 1, 1) := by decide +kernel
theorem dX11_isSame_34 : decode cX11_isSame 34 = .ok (.goto 4, 3) := by decide +kernel
theorem dX11_isSame_37 : decode cX11_isSame 37 = .ok (.iconst 0, 1) := by decide +kernel
theorem dX11_isSame_38 : decode cX11_isSame 38 = .ok (.istore 5, 2) := by decide +kernel
theorem dX11_isSame_40 : decode cX11_isSame 40 = .ok (.iconst 0, 1) := by decide +kernel
theorem dX11_isSame_41 : decode cX11_isSame 41 = .ok (.istore 6, 2) := by decide +kernel
theorem dX11_isSame_43 : decode cX11_isSame 43 = .ok (.iload 6, 2) := by decide +kernel
theorem dX11_isSame_45 : decode cX11_isSame 45 = .ok (.iload 4, 2) := by decide +kernel
theorem dX11_isSame_47 : decode cX11_isSame 47 = .ok (.if_icmp .ge 52, 3) := by decide +kernel
theorem dX11_isSame_50 : decode cX11_isSame 50 = .ok (.iload 5, 2) := by decide +kernel
theorem dX11_isSame_52 : decode cX11_isSame 52 = .ok (.ifCond .eq 47, 3) := by decide +kernel
theorem dX11_isSame_55 : decode cX11_isSame 55 = .ok (.aload_n 0, 1) := by decide +kernel
theorem dX11_isSame_56 : decode cX11_isSame 56 = .ok (.getfield 88, 3) := by decide +kernel
theorem dX11_isSame_59 : decode cX11_isSame 59 = .ok (.aload_n 0, 1) := by decide +kernel
theorem dX11_isSame_60 : decode cX11_isSame 60 = .ok (.getfield 31, 3) := by decide +kernel
theorem dX11_isSame_63 : decode cX11_isSame 63 = .ok (.iload_n 1, 1) := by decide +kernel
theorem dX11_isSame_64 : decode cX11_isSame 64 = .ok (.iaload, 1) := by decide +kernel
theorem dX11_isSame_65 : decode cX11_isSame 65 = .ok (.iload 6, 2) := by decide +kernel
theorem dX11_isSame_67 : decode cX11_isSame 67 = .ok (.iadd, 1) := by decide +kernel
theorem dX11_isSame_68 : decode cX11_isSame 68 = .ok (.baload, 1) := by decide +kernel
theorem dX11_isSame_69 : decode cX11_isSame 69 = .ok (.aload_n 2, 1) := by decide +kernel
theorem dX11_isSame_70 : decode cX11_isSame 70 = .ok (.getfield 88, 3) := by decide +kernel
theorem dX11_isSame_73 : decode cX11_isSame 73 = .ok (.aload_n 2, 1) := by decide +kernel
theorem dX11_isSame_74 : decode cX11_isSame 74 = .ok (.getfield 31, 3) := by decide +kernel
theorem dX11_isSame_77 : decode cX11_isSame 77 = .ok (.iload_n 3, 1) := by decide +kernel
theorem dX11_isSame_78 : decode cX11_isSame 78 = .ok (.iaload, 1) := by decide +kernel
theorem dX11_isSame_79 : decode cX11_isSame 79 = .ok (.iload 6, 2) := by decide +kernel
theorem dX11_isSame_81 : decode cX11_isSame 81 = .ok (.iadd, 1) := by decide +kernel
theorem dX11_isSame_82 : decode cX11_isSame 82 = .ok (.baload, 1) := by decide +kernel
theorem dX11_isSame_83 : decode cX11_isSame 83 = .ok (.if_icmp .ne 7, 3) := by decide +kernel
theorem dX11_isSame_86 : decode cX11_isSame 86 = .ok (.iconst 1, 1) := by decide +kernel
theorem dX11_isSame_87 : decode cX11_isSame 87 = .ok (.goto 4, 3) := by decide +kernel
theorem dX11_isSame_90 : decode cX11_isSame 90 = .ok (.iconst 0, 1) := by decide +kernel
theorem dX11_isSame_91 : decode cX11_isSame 91 = .ok (.istore 5, 2) := by decide +kernel
theorem dX11_isSame_93 : decode cX11_isSame 93 = .ok (.iinc 6 1, 3) := by decide +kernel
theorem dX11_isSame_96 : decode cX11_isSame 96 = .ok (.goto (-53), 3) := by decide +kernel
theorem dX11_isSame_99 : decode cX11_isSame 99 = .ok (.iload 5, 2) := by decide +kernel
theorem dX11_isSame_101 : decode cX11_isSame 101 = .ok (.ireturn, 1) := by decide +kernel
theorem dX12_init_0 : decode cX12_init 0 = .ok (.aload_n 0, 1) := by decide +kernel
theorem dX12_init_1 : decode cX12_init 1 = .ok (.invokespecial 3, 3) := by decide +kernel
theorem dX12_init_4 : decode cX12_init 4 = .ok (.aload_n 0, 1) := by decide +kernel
theorem dX12_init_5 : decode cX12_init 5 = .ok (.bipush 60, 2) := by decide +kernel
theorem dX12_init_7 : decode cX12_init 7 = .ok (.newarray .int, 2) := by decide +kernel
theorem dX12_init_9 : decode cX12_init 9 = .ok (.putfield 9, 3) := by decide +kernel
theorem dX12_init_12 : decode cX12_init 12 = .ok (.aload_n 0, 1) := by decide +kernel
theorem dX12_init_13 : decode cX12_init 13 = .ok (.sipush 1600, 3) := by decide +kernel
theorem dX12_init_16 : decode cX12_init 16 = .ok (.newarray .int, 2) := by decide +kernel
theorem dX12_init_18 : decode cX12_init 18 = .ok (.putfield 15, 3) := by decide +kernel
theorem dX12_init_21 : decode cX12_init 21 = .ok (.aload_n 0, 1) := by decide +kernel
theorem dX12_init_22 : decode cX12_init 22 = .ok (.bipush 64, 2) := by decide +kernel
theorem dX12_init_24 : decode cX12_init 24 = .ok (.newarray .int, 2) := by decide +kernel
theorem dX12_init_26 : decode cX12_init 26 = .ok (.putfield 18, 3) := by decide +kernel
theorem dX12_init_29 : decode cX12_init 29 = .ok (.return_, 1) := by decide +kernel
theorem dX13_init_0 : decode cX13_init 0 = .ok (.aload_n 0, 1) := by decide +kernel
theorem dX13_init_1 : decode cX13_init 1 = .ok (.aconst_null, 1) := by decide +kernel
theorem dX13_init_2 : decode cX13_init 2 = .ok (.aconst_null, 1) := by decide +kernel
theorem dX13_init_3 : decode cX13_init 3 = .ok (.iconst 0, 1) := by decide +kernel
theorem dX13_init_4 : decode cX13_init 4 = .ok (.iconst 0, 1) := by decide +kernel
theorem dX13_init_5 : decode cX13_init 5 = .ok (.invokespecial 1, 3) := by decide +kernel
theorem dX13_init_8 : decode cX13_init 8 = .ok (.return_, 1) := by decide +kernel
theorem dX14_init_0 : decode cX14_init 0 = .ok (.aload_n 0, 1) := by decide +kernel
theorem dX14_init_1 : decode cX14_init 1 = .ok (.invokespecial 1, 3) := by decide +kernel
theorem dX14_init_4 : decode cX14_init 4 = .ok (.aload_n 0, 1) := by decide +kernel
theorem dX14_init_5 : decode cX14_init 5 = .ok (.iconst (-1), 1) := by decide +kernel
theorem dX14_init_6 : decode cX14_init 6 = .ok (.putfield 9, 3) := by decide +kernel
theorem dX14_init_9 : decode cX14_init 9 = .ok (.aload_n 0, 1) := by decide +kernel
theorem dX14_init_10 : decode cX14_init 10 = .ok (.new 13, 3) := by decide +kernel
theorem dX14_init_13 : decode cX14_init 13 = .ok (.dup, 1) := by decide +kernel
theorem dX14_init_14 : decode cX14_init 14 = .ok (.invokespecial 15, 3) := by decide +kernel
theorem dX14_init_17 : decode cX14_init 17 = .ok (.putfield 16, 3) := by decide +kernel
theorem dX14_init_20 : decode cX14_init 20 = .ok (.aload_n 0, 1) := by decide +kernel
theorem dX14_init_21 : decode cX14_init 21 = .ok (.new 13, 3) := by decide +kernel
theorem dX14_init_24 : decode cX14_init 24 = .ok (.dup, 1) := by decide +kernel
theorem dX14_init_25 : decode cX14_init 25 = .ok (.invokespecial 15, 3) := by decide +kernel
theorem dX14_init_28 : decode cX14_init 28 = .ok (.putfield 20, 3) := by decide +kernel
theorem dX14_init_31 : decode cX14_init 31 = .ok (.aload_n 0, 1) := by decide +kernel
theorem dX14_init_32 : decode cX14_init 32 = .ok (.new 13, 3) := by decide +kernel
theorem dX14_init_35 : decode cX14_init 35 = .ok (.dup, 1) := by decide +kernel
theorem dX14_init_36 : decode cX14_init 36 = .ok (.invokespecial 15, 3) := by decide +kernel
theorem dX14_init_39 : decode cX14_init 39 = .ok (.putfield 23, 3) := by decide +kernel
theorem dX14_init_42 : decode cX14_init 42 = .ok (.aload_n 0, 1) := by decide +kernel
theorem dX14_init_43 : decode cX14_init 43 = .ok (.new 26, 3) := by decide +kernel
theorem dX14_init_46 : decode cX14_init 46 = .ok (.dup, 1) := by decide +kernel
theorem dX14_init_47 : decode cX14_init 47 = .ok (.invokespecial 28, 3) := by decide +kernel
theorem dX14_init_50 : decode cX14_init 50 = .ok (.putfield 29, 3) := by decide +kernel
theorem dX14_init_53 : decode cX14_init 53 = .ok (.aload_n 0, 1) := by decide +kernel
theorem dX14_init_54 : decode cX14_init 54 = .ok (.sipush 600, 3) := by decide +kernel
theorem dX14_init_57 : decode cX14_init 57 = .ok (.newarray .byte, 2) := by decide +kernel
theorem dX14_init_59 : decode cX14_init 59 = .ok (.putfield 33, 3) := by decide +kernel
theorem dX14_init_62 : decode cX14_init 62 = .ok (.aload_n 0, 1) := by decide +kernel
theorem dX14_init_63 : decode cX14_init 63 = .ok (.new 37, 3) := by decide +kernel
theorem dX14_init_66 : decode cX14_init 66 = .ok (.dup, 1) := by decide +kernel
theorem dX14_init_67 : decode cX14_init 67 = .ok (.invokespecial 39, 3) := by decide +kernel
theorem dX14_init_70 : decode cX14_init 70 = .ok (.putfield 40, 3) := by decide +kernel
theorem dX14_init_73 : decode cX14_init 73 = .ok (.aload_n 0, 1) := by decide +kernel
theorem dX14_init_74 : decode cX14_init 74 = .ok (.new 37, 3) := by decide +kernel
theorem dX14_init_77 : decode cX14_init 77 = .ok (.dup, 1) := by decide +kernel
theorem dX14_init_78 : decode cX14_init 78 = .ok (.invokespecial 39, 3) := by decide +kernel
theorem dX14_init_81 : decode cX14_init 81 = .ok (.putfield 44, 3) := by decide +kernel
theorem dX14_init_84 : decode cX14_init 84 = .ok (.aload_n 0, 1) := by decide +kernel
theorem dX14_init_85 : decode cX14_init 85 = .ok (.sipush 2000, 3) := by decide +kernel
theorem dX14_init_88 : decode cX14_init 88 = .ok (.newarray .int, 2) := by decide +kernel
theorem dX14_init_90 : decode cX14_init 90 = .ok (.putfield 47, 3) := by decide +kernel
theorem dX14_init_93 : decode cX14_init 93 = .ok (.aload_n 0, 1) := by decide +kernel
theorem dX14_init_94 : decode cX14_init 94 = .ok (.bipush 60, 2) := by decide +kernel
theorem dX14_init_96 : decode cX14_init 96 = .ok (.newarray .int, 2) := by decide +kernel
theorem dX14_init_98 : decode cX14_init 98 = .ok (.putfield 51, 3) := by decide +kernel
theorem dX14_init_101 : decode cX14_init 101 = .ok (.aload_n 0, 1) := by decide +kernel
theorem dX14_init_102 : decode cX14_init 102 = .ok (.sipush 1024, 3) := by decide +kernel
theorem dX14_init_105 : decode cX14_init 105 = .ok (.newarray .int, 2) := by decide +kernel
theorem dX14_init_107 : decode cX14_init 107 = .ok (.putfield 54, 3) := by decide +kernel
theorem dX14_init_110 : decode cX14_init 110 = .ok (.aload_n 0, 1) := by decide +kernel
theorem dX14_init_111 : decode cX14_init 111 = .ok (.bipush 12, 2) := by decide +kernel
theorem dX14_init_113 : decode cX14_init 113 = .ok (.newarray .int, 2) := by decide +kernel
theorem dX14_init_115 : decode cX14_init 115 = .ok (.putfield 57, 3) := by decide +kernel
theorem dX14_init_118 : decode cX14_init 118 = .ok (.aload_n 0, 1) := by decide +kernel
theorem dX14_init_119 : decode cX14_init 119 = .ok (.bipush 12, 2) := by decide +kernel
theorem dX14_init_121 : decode cX14_init 121 = .ok (.newarray .int, 2) := by decide +kernel
theorem dX14_init_123 : decode cX14_init 123 = .ok (.putfield 60, 3) := by decide +kernel
