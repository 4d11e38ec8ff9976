theorem dX0_init_0 : decode cX0_init 0 = .ok (.aload_n 0, 1) := by decide +kernel
theorem dX0_init_1 : decode cX0_init 1 = .ok (.invokespecial 5, 3) := by decide +kernel
theorem dX0_init_4 : decode cX0_init 4 = .ok (.aload_n 0, 1) := by decide +kernel
theorem dX0_init_5 : decode cX0_init 5 = .ok (.sipush 1024, 3) := by decide +kernel
theorem dX0_init_8 : decode cX0_init 8 = .ok (.newarray .int, 2) := by decide +kernel
theorem dX0_init_10 : decode cX0_init 10 = .ok (.putfield 11, 3) := by decide +kernel
theorem dX0_init_13 : decode cX0_init 13 = .ok (.aload_n 0, 1) := by decide +kernel
theorem dX0_init_14 : decode cX0_init 14 = .ok (.bipush 10, 2) := by decide +kernel
theorem dX0_init_16 : decode cX0_init 16 = .ok (.newarray .int, 2) := by decide +kernel
theorem dX0_init_18 : decode cX0_init 18 = .ok (.putfield 17, 3) := by decide +kernel
theorem dX0_init_21 : decode cX0_init 21 = .ok (.return_, 1) := by decide +kernel
theorem dX1_init_0 : decode cX1_init 0 = .ok (.aload_n 0, 1) := by decide +kernel
theorem dX1_init_1 : decode cX1_init 1 = .ok (.invokespecial 3, 3) := by decide +kernel
theorem dX1_init_4 : decode cX1_init 4 = .ok (.aload_n 0, 1) := by decide +kernel
theorem dX1_init_5 : decode cX1_init 5 = .ok (.sipush 1200, 3) := by decide +kernel
theorem dX1_init_8 : decode cX1_init 8 = .ok (.newarray .int, 2) := by decide +kernel
theorem dX1_init_10 : decode cX1_init 10 = .ok (.putfield 11, 3) := by decide +kernel
theorem dX1_init_13 : decode cX1_init 13 = .ok (.aload_n 0, 1) := by decide +kernel
theorem dX1_init_14 : decode cX1_init 14 = .ok (.sipush 1200, 3) := by decide +kernel
theorem dX1_init_17 : decode cX1_init 17 = .ok (.newarray .int, 2) := by decide +kernel
theorem dX1_init_19 : decode cX1_init 19 = .ok (.putfield 15, 3) := by decide +kernel
theorem dX1_init_22 : decode cX1_init 22 = .ok (.aload_n 0, 1) := by decide +kernel
theorem dX1_init_23 : decode cX1_init 23 = .ok (.sipush 1200, 3) := by decide +kernel
theorem dX1_init_26 : decode cX1_init 26 = .ok (.newarray .int, 2) := by decide +kernel
theorem dX1_init_28 : decode cX1_init 28 = .ok (.putfield 18, 3) := by decide +kernel
theorem dX1_init_31 : decode cX1_init 31 = .ok (.return_, 1) := by decide +kernel
theorem dX1_clear_0 : decode cX1_clear 0 = .ok (.aload_n 0, 1) := by decide +kernel
theorem dX1_clear_1 : decode cX1_clear 1 = .ok (.iconst 0, 1) := by decide +kernel
theorem dX1_clear_2 : decode cX1_clear 2 = .ok (.putfield 21, 3) := by decide +kernel
theorem dX1_clear_5 : decode cX1_clear 5 = .ok (.return_, 1) := by decide +kernel
theorem dX2_init_0 : decode cX2_init 0 = .ok (.aload_n 0, 1) := by decide +kernel
theorem dX2_init_1 : decode cX2_init 1 = .ok (.invokespecial 1, 3) := by decide +kernel
theorem dX2_init_4 : decode cX2_init 4 = .ok (.aload_n 0, 1) := by decide +kernel
theorem dX2_init_5 : decode cX2_init 5 = .ok (.iconst 3, 1) := by decide +kernel
theorem dX2_init_6 : decode cX2_init 6 = .ok (.newarray .int, 2) := by decide +kernel
theorem dX2_init_8 : decode cX2_init 8 = .ok (.putfield 9, 3) := by decide +kernel
theorem dX2_init_11 : decode cX2_init 11 = .ok (.return_, 1) := by decide +kernel
theorem dX3_init_0 : decode cX3_init 0 = .ok (.aload_n 0, 1) := by decide +kernel
theorem dX3_init_1 : decode cX3_init 1 = .ok (.invokespecial 3, 3) := by decide +kernel
theorem dX3_init_4 : decode cX3_init 4 = .ok (.aload_n 0, 1) := by decide +kernel
theorem dX3_init_5 : decode cX3_init 5 = .ok (.bipush 10, 2) := by decide +kernel
theorem dX3_init_7 : decode cX3_init 7 = .ok (.newarray .int, 2) := by decide +kernel
theorem dX3_init_9 : decode cX3_init 9 = .ok (.putfield 11, 3) := by decide +kernel
theorem dX3_init_12 : decode cX3_init 12 = .ok (.aload_n 0, 1) := by decide +kernel
theorem dX3_init_13 : decode cX3_init 13 = .ok (.bipush 10, 2) := by decide +kernel
theorem dX3_init_15 : decode cX3_init 15 = .ok (.newarray .int, 2) := by decide +kernel
theorem dX3_init_17 : decode cX3_init 17 = .ok (.putfield 17, 3) := by decide +kernel
theorem dX3_init_20 : decode cX3_init 20 = .ok (.return_, 1) := by decide +kernel
theorem dX4_init_0 : decode cX4_init 0 = .ok (.aload_n 0, 1) := by decide +kernel
theorem dX4_init_1 : decode cX4_init 1 = .ok (.invokespecial 1, 3) := by decide +kernel
theorem dX4_init_4 : decode cX4_init 4 = .ok (.return_, 1) := by decide +kernel
theorem dX5_init_0 : decode cX5_init 0 = .ok (.aload_n 0, 1) := by decide +kernel
theorem dX5_init_1 : decode cX5_init 1 = .ok (.invokespecial 5, 3) := by decide +kernel
theorem dX5_init_4 : decode cX5_init 4 = .ok (.aload_n 0, 1) := by decide +kernel
theorem dX5_init_5 : decode cX5_init 5 = .ok (.bipush 60, 2) := by decide +kernel
theorem dX5_init_7 : decode cX5_init 7 = .ok (.newarray .int, 2) := by decide +kernel
theorem dX5_init_9 : decode cX5_init 9 = .ok (.putfield 11, 3) := by decide +kernel
theorem dX5_init_12 : decode cX5_init 12 = .ok (.aload_n 0, 1) := by decide +kernel
theorem dX5_init_13 : decode cX5_init 13 = .ok (.sipush 1600, 3) := by decide +kernel
theorem dX5_init_16 : decode cX5_init 16 = .ok (.newarray .int, 2) := by decide +kernel
theorem dX5_init_18 : decode cX5_init 18 = .ok (.putfield 15, 3) := by decide +kernel
theorem dX5_init_21 : decode cX5_init 21 = .ok (.aload_n 0, 1) := by decide +kernel
theorem dX5_init_22 : decode cX5_init 22 = .ok (.bipush 64, 2) := by decide +kernel
theorem dX5_init_24 : decode cX5_init 24 = .ok (.newarray .int, 2) := by decide +kernel
theorem dX5_init_26 : decode cX5_init 26 = .ok (.putfield 18, 3) := by decide +kernel
theorem dX5_init_29 : decode cX5_init 29 = .ok (.aload_n 0, 1) := by decide +kernel
theorem dX5_init_30 : decode cX5_init 30 = .ok (.bipush 8, 2) := by decide +kernel
theorem dX5_init_32 : decode cX5_init 32 = .ok (.newarray .int, 2) := by decide +kernel
theorem dX5_init_34 : decode cX5_init 34 = .ok (.putfield 21, 3) := by decide +kernel
theorem dX5_init_37 : decode cX5_init 37 = .ok (.aload_n 0, 1) := by decide +kernel
theorem dX5_init_38 : decode cX5_init 38 = .ok (.sipush 288, 3) := by decide +kernel
theorem dX5_init_41 : decode cX5_init 41 = .ok (.newarray .int, 2) := by decide +kernel
theorem dX5_init_43 : decode cX5_init 43 = .ok (.putfield 24, 3) := by decide +kernel
theorem dX5_init_46 : decode cX5_init 46 = .ok (.return_, 1) := by decide +kernel
theorem dX6_init_0 : decode cX6_init 0 = .ok (.aload_n 0, 1) := by decide +kernel
theorem dX6_init_1 : decode cX6_init 1 = .ok (.invokespecial 3, 3) := by decide +kernel
theorem dX6_init_4 : decode cX6_init 4 = .ok (.aload_n 0, 1) := by decide +kernel
theorem dX6_init_5 : decode cX6_init 5 = .ok (.new 9, 3) := by decide +kernel
theorem dX6_init_8 : decode cX6_init 8 = .ok (.dup, 1) := by decide +kernel
theorem dX6_init_9 : decode cX6_init 9 = .ok (.invokespecial 11, 3) := by decide +kernel
theorem dX6_init_12 : decode cX6_init 12 = .ok (.putfield 12, 3) := by decide +kernel
theorem dX6_init_15 : decode cX6_init 15 = .ok (.aload_n 0, 1) := by decide +kernel
theorem dX6_init_16 : decode cX6_init 16 = .ok (.new 18, 3) := by decide +kernel
theorem dX6_init_19 : decode cX6_init 19 = .ok (.dup, 1) := by decide +kernel
theorem dX6_init_20 : decode cX6_init 20 = .ok (.invokespecial 20, 3) := by decide +kernel
theorem dX6_init_23 : decode cX6_init 23 = .ok (.putfield 21, 3) := by decide +kernel
theorem dX6_init_26 : decode cX6_init 26 = .ok (.aload_n 0, 1) := by decide +kernel
theorem dX6_init_27 : decode cX6_init 27 = .ok (.bipush 10, 2) := by decide +kernel
theorem dX6_init_29 : decode cX6_init 29 = .ok (.anewarray 25, 3) := by decide +kernel
theorem dX6_init_32 : decode cX6_init 32 = .ok (.putfield 27, 3) := by decide +kernel
theorem dX6_init_35 : decode cX6_init 35 = .ok (.iconst 0, 1) := by decide +kernel
theorem dX6_init_36 : decode cX6_init 36 = .ok (.istore_n 1, 1) := by decide +kernel
theorem dX6_init_37 : decode cX6_init 37 = .ok (.iload_n 1, 1) := by decide +kernel
theorem dX6_init_38 : decode cX6_init 38 = .ok (.bipush 10, 2) := by decide +kernel
theorem dX6_init_40 : decode cX6_init 40 = .ok (.if_icmp .ge 22, 3) := by decide +kernel
theorem dX6_init_43 : decode cX6_init 43 = .ok (.aload_n 0, 1) := by decide +kernel
theorem dX6_init_44 : decode cX6_init 44 = .ok (.getfield 27, 3) := by decide +kernel
theorem dX6_init_47 : decode cX6_init 47 = .ok (.iload_n 1, 1) := by decide +kernel
theorem dX6_init_48 : decode cX6_init 48 = .ok (.new 25, 3) := by decide +kernel
theorem dX6_init_51 : decode cX6_init 51 = .ok (.dup, 1) := by decide +kernel
theorem dX6_init_52 : decode cX6_init 52 = .ok (.invokespecial 31, 3) := by decide +kernel
theorem dX6_init_55 : decode cX6_init 55 = .ok (.aastore, 1) := by decide +kernel
theorem dX6_init_56 : decode cX6_init 56 = .ok (.iinc 1 1, 3) := by decide +kernel
theorem dX6_init_59 : decode cX6_init 59 = .ok (.goto (-22), 3) := by decide +kernel
theorem dX6_init_62 : decode cX6_init 62 = .ok (.aload_n 0, 1) := by decide +kernel
theorem dX6_init_63 : decode cX6_init 63 = .ok (.bipush 60, 2) := by decide +kernel
theorem dX6_init_65 : decode cX6_init 65 = .ok (.anewarray 32, 3) := by decide +kernel
theorem dX6_init_68 : decode cX6_init 68 = .ok (.putfield 34, 3) := by decide +kernel
theorem dX6_init_71 : decode cX6_init 71 = .ok (.iconst 0, 1) := by decide +kernel
theorem dX6_init_72 : decode cX6_init 72 = .ok (.istore_n 1, 1) := by decide +kernel
theorem dX6_init_73 : decode cX6_init 73 = .ok (.iload_n 1, 1) := by decide +kernel
theorem dX6_init_74 : decode cX6_init 74 = .ok (.bipush 60, 2) := by decide +kernel
theorem dX6_init_76 : decode cX6_init 76 = .ok (.if_icmp .ge 22, 3) := by decide +kernel
theorem dX6_init_79 : decode cX6_init 79 = .ok (.aload_n 0, 1) := by decide +kernel
theorem dX6_init_80 : decode cX6_init 80 = .ok (.getfield 34, 3) := by decide +kernel
theorem dX6_init_83 : decode cX6_init 83 = .ok (.iload_n 1, 1) := by decide +kernel
theorem dX6_init_84 : decode cX6_init 84 = .ok (.new 32, 3) := by decide +kernel
theorem dX6_init_87 : decode cX6_init 87 = .ok (.dup, 1) := by decide +kernel
theorem dX6_init_88 : decode cX6_init 88 = .ok (.invokespecial 38, 3) := by decide +kernel
theorem dX6_init_91 : decode cX6_init 91 = .ok (.aastore, 1) := by decide +kernel
theorem dX6_init_92 : decode cX6_init 92 = .ok (.iinc 1 1, 3) := by decide +kernel
theorem dX6_init_95 : decode cX6_init 95 = .ok (.goto (-22), 3) := by decide +kernel
theorem dX6_init_98 : decode cX6_init 98 = .ok (.return_, 1) := by decide +kernel
theorem dX6_clear_0 : decode cX6_clear 0 = .ok (.aload_n 0, 1) := by decide +kernel
theorem dX6_clear_1 : decode cX6_clear 1 = .ok (.iconst 0, 1) := by decide +kernel
theorem dX6_clear_2 : decode cX6_clear 2 = .ok (.putfield 39, 3) := by decide +kernel
theorem dX6_clear_5 : decode cX6_clear 5 = .ok (.aload_n 0, 1) := by decide +kernel
theorem dX6_clear_6 : decode cX6_clear 6 = .ok (.iconst 0, 1) := by decide +kernel
theorem dX6_clear_7 : decode cX6_clear 7 = .ok (.putfield 43, 3) := by decide +kernel
theorem dX6_clear_10 : decode cX6_clear 10 = .ok (.aload_n 0, 1) := by decide +kernel
theorem dX6_clear_11 : decode cX6_clear 11 = .ok (.getfield 21, 3) := by decide +kernel
theorem dX6_clear_14 : decode cX6_clear 14 = .ok (.invokevirtual 46, 3) := by decide +kernel
theorem dX6_clear_17 : decode cX6_clear 17 = .ok (.return_, 1) := by decide +kernel
theorem dX6_hasFunction_0 : decode cX6_hasFunction 0 = .ok (.iload_n 1, 1) := by decide +kernel
theorem dX6_hasFunction_1 : decode cX6_hasFunction 1 = .ok (.ifCond .lt 24, 3) := by decide +kernel
theorem dX6_hasFunction_4 : decode cX6_hasFunction 4 = .ok (.iload_n 1, 1) := by decide +kernel
theorem dX6_hasFunction_5 : decode cX6_hasFunction 5 = .ok (.aload_n 0, 1) := by decide +kernel
theorem dX6_hasFunction_6 : decode cX6_hasFunction 6 = .ok (.getfield 39, 3) := by decide +kernel
theorem dX6_hasFunction_9 : decode cX6_hasFunction 9 = .ok (.if_icmp .ge 16, 3) := by decide +kernel
theorem dX6_hasFunction_12 : decode cX6_hasFunction 12 = .ok (.iload_n 1, 1) := by decide +kernel
theorem dX6_hasFunction_13 : decode cX6_hasFunction 13 = .ok (.aload_n 0, 1) := by decide +kernel
theorem dX6_hasFunction_14 : decode cX6_hasFunction 14 = .ok (.getfield 27, 3) := by decide +kernel
theorem dX6_hasFunction_17 : decode cX6_hasFunction 17 = .ok (.arraylength, 1) := by decide +kernel
theorem dX6_hasFunction_18 : decode cX6_hasFunction 18 = .ok (.if_icmp .ge 7, 3) := by decide +kernel
theorem dX6_hasFunction_21 : decode cX6_hasFunction 21 = .ok (.iconst 1, 1) := by decide +kernel
theorem dX6_hasFunction_22 : decode cX6_hasFunction 22 = .ok (.goto 4, 3) := by decide +kernel
theorem dX6_hasFunction_25 : decode cX6_hasFunction 25 = .ok (.iconst 0, 1) := by decide +kernel
theorem dX6_hasFunction_26 : decode cX6_hasFunction 26 = .ok (.ireturn, 1) := by decide +kernel
theorem dX6_hasLine_0 : decode cX6_hasLine 0 = .ok (.iload_n 1, 1) := by decide +kernel
theorem dX6_hasLine_1 : decode cX6_hasLine 1 = .ok (.ifCond .lt 24, 3) := by decide +kernel
theorem dX6_hasLine_4 : decode cX6_hasLine 4 = .ok (.iload_n 1, 1) := by decide +kernel
theorem dX6_hasLine_5 : decode cX6_hasLine 5 = .ok (.aload_n 0, 1) := by decide +kernel
theorem dX6_hasLine_6 : decode cX6_hasLine 6 = .ok (.getfield 43, 3) := by decide +kernel
theorem dX6_hasLine_9 : decode cX6_hasLine 9 = .ok (.if_icmp .ge 16, 3) := by decide +kernel
theorem dX6_hasLine_12 : decode cX6_hasLine 12 = .ok (.iload_n 1, 1) := by decide +kernel
theorem dX6_hasLine_13 : decode cX6_hasLine 13 = .ok (.aload_n 0, 1) := by decide +kernel
theorem dX6_hasLine_14 : decode cX6_hasLine 14 = .ok (.getfield 34, 3) := by decide +kernel
theorem dX6_hasLine_17 : decode cX6_hasLine 17 = .ok (.arraylength, 1) := by decide +kernel
theorem dX6_hasLine_18 : decode cX6_hasLine 18 = .ok (.if_icmp .ge 7, 3) := by decide +kernel
theorem dX6_hasLine_21 : decode cX6_hasLine 21 = .ok (.iconst 1, 1) := by decide +kernel
theorem dX6_hasLine_22 : decode cX6_hasLine 22 = .ok (.goto 4, 3) := by decide +kernel
theorem dX6_hasLine_25 : decode cX6_hasLine 25 = .ok (.iconst 0, 1) := by decide +kernel
theorem dX6_hasLine_26 : decode cX6_hasLine 26 = .ok (.ireturn, 1) := by decide +kernel
theorem dX7_init_0 : decode cX7_init 0 = .ok (.aload_n 0, 1) := by decide +kernel
theorem dX7_init_1 : decode cX7_init 1 = .ok (.invokespecial 3, 3) := by decide +kernel
theorem dX7_init_4 : decode cX7_init 4 = .ok (.aload_n 0, 1) := by decide +kernel
theorem dX7_init_5 : decode cX7_init 5 = .ok (.sipush 150, 3) := by decide +kernel
theorem dX7_init_8 : decode cX7_init 8 = .ok (.newarray .int, 2) := by decide +kernel
theorem dX7_init_10 : decode cX7_init 10 = .ok (.putfield 11, 3) := by decide +kernel
theorem dX7_init_13 : decode cX7_init 13 = .ok (.aload_n 0, 1) := by decide +kernel
theorem dX7_init_14 : decode cX7_init 14 = .ok (.sipush 150, 3) := by decide +kernel
theorem dX7_init_17 : decode cX7_init 17 = .ok (.newarray .int, 2) := by decide +kernel
theorem dX7_init_19 : decode cX7_init 19 = .ok (.putfield 15, 3) := by decide +kernel
theorem dX7_init_22 : decode cX7_init 22 = .ok (.aload_n 0, 1) := by decide +kernel
theorem dX7_init_23 : decode cX7_init 23 = .ok (.sipush 150, 3) := by decide +kernel
theorem dX7_init_26 : decode cX7_init 26 = .ok (.newarray .int, 2) := by decide +kernel
theorem dX7_init_28 : decode cX7_init 28 = .ok (.putfield 18, 3) := by decide +kernel
theorem dX7_init_31 : decode cX7_init 31 = .ok (.aload_n 0, 1) := by decide +kernel
theorem dX7_init_32 : decode cX7_init 32 = .ok (.sipush 150, 3) := by decide +kernel
theorem dX7_init_35 : decode cX7_init 35 = .ok (.newarray .int, 2) := by decide +kernel
theorem dX7_init_37 : decode cX7_init 37 = .ok (.putfield 21, 3) := by decide +kernel
theorem dX7_init_40 : decode cX7_init 40 = .ok (.return_, 1) := by decide +kernel
theorem dX7_read_0 : decode cX7_read 0 = .ok (.aload_n 0, 1) := by decide +kernel
theorem dX7_read_1 : decode cX7_read 1 = .ok (.aload_n 3, 1) := by decide +kernel
theorem dX7_read_2 : decode cX7_read 2 = .ok (.putfield 24, 3) := by decide +kernel
theorem dX7_read_5 : decode cX7_read 5 = .ok (.aload_n 0, 1) := by decide +kernel
theorem dX7_read_6 : decode cX7_read 6 = .ok (.aload_n 3, 1) := by decide +kernel
theorem dX7_read_7 : decode cX7_read 7 = .ok (.getfield 28, 3) := by decide +kernel
theorem dX7_read_10 : decode cX7_read 10 = .ok (.putfield 34, 3) := by decide +kernel
theorem dX7_read_13 : decode cX7_read 13 = .ok (.aload_n 0, 1) := by decide +kernel
theorem dX7_read_14 : decode cX7_read 14 = .ok (.aload_n 3, 1) := by decide +kernel
theorem dX7_read_15 : decode cX7_read 15 = .ok (.getfield 35, 3) := by decide +kernel
theorem dX7_read_18 : decode cX7_read 18 = .ok (.putfield 39, 3) := by decide +kernel
theorem dX7_read_21 : decode cX7_read 21 = .ok (.aload_n 0, 1) := by decide +kernel
theorem dX7_read_22 : decode cX7_read 22 = .ok (.getfield 24, 3) := by decide +kernel
theorem dX7_read_25 : decode cX7_read 25 = .ok (.invokevirtual 40, 3) := by decide +kernel
theorem dX7_read_28 : decode cX7_read 28 = .ok (.aload_n 0, 1) := by decide +kernel
theorem dX7_read_29 : decode cX7_read 29 = .ok (.getfield 34, 3) := by decide +kernel
theorem dX7_read_32 : decode cX7_read 32 = .ok (.aload_n 1, 1) := by decide +kernel
theorem dX7_read_33 : decode cX7_read 33 = .ok (.iload_n 2, 1) := by decide +kernel
theorem dX7_read_34 : decode cX7_read 34 = .ok (.invokevirtual 43, 3) := by decide +kernel
theorem dX7_read_37 : decode cX7_read 37 = .ok (.aload_n 0, 1) := by decide +kernel
theorem dX7_read_38 : decode cX7_read 38 = .ok (.iconst 0, 1) := by decide +kernel
theorem dX7_read_39 : decode cX7_read 39 = .ok (.putfield 49, 3) := by decide +kernel
theorem dX7_read_42 : decode cX7_read 42 = .ok (.aload_n 0, 1) := by decide +kernel
theorem dX7_read_43 : decode cX7_read 43 = .ok (.iconst 0, 1) := by decide +kernel
theorem dX7_read_44 : decode cX7_read 44 = .ok (.putfield 53, 3) := by decide +kernel
theorem dX7_read_47 : decode cX7_read 47 = .ok (.aload_n 0, 1) := by decide +kernel
theorem dX7_read_48 : decode cX7_read 48 = .ok (.iconst 0, 1) := by decide +kernel
theorem dX7_read_49 : decode cX7_read 49 = .ok (.putfield 56, 3) := by decide +kernel
theorem dX7_read_52 : decode cX7_read 52 = .ok (.aload_n 0, 1) := by decide +kernel
theorem dX7_read_53 : decode cX7_read 53 = .ok (.iconst 0, 1) := by decide +kernel
theorem dX7_read_54 : decode cX7_read 54 = .ok (.putfield 59, 3) := by decide +kernel
theorem dX7_read_57 : decode cX7_read 57 = .ok (.aload_n 0, 1) := by decide +kernel
theorem dX7_read_58 : decode cX7_read 58 = .ok (.invokevirtual 62, 3) := by decide +kernel
theorem dX7_read_61 : decode cX7_read 61 = .ok (.iconst 0, 1) := by decide +kernel
theorem dX7_read_62 : decode cX7_read 62 = .ok (.istore 4, 2) := by decide +kernel
theorem dX7_read_64 : decode cX7_read 64 = .ok (.iload 4, 2) := by decide +kernel
theorem dX7_read_66 : decode cX7_read 66 = .ok (.bipush 10, 2) := by decide +kernel
theorem dX7_read_68 : decode cX7_read 68 = .ok (.if_icmp .ge 20, 3) := by decide +kernel
theorem dX7_read_71 : decode cX7_read 71 = .ok (.aload_n 0, 1) := by decide +kernel
theorem dX7_read_72 : decode cX7_read 72 = .ok (.invokevirtual 65, 3) := by decide +kernel
theorem dX7_read_75 : decode cX7_read 75 = .ok (.ifCond .eq 13, 3) := by decide +kernel
theorem dX7_read_78 : decode cX7_read 78 = .ok (.aload_n 0, 1) := by decide +kernel
theorem dX7_read_79 : decode cX7_read 79 = .ok (.invokevirtual 62, 3) := by decide +kernel
theorem dX7_read_82 : decode cX7_read 82 = .ok (.iinc 4 1, 3) := by decide +kernel
theorem dX7_read_85 : decode cX7_read 85 = .ok (.goto (-21), 3) := by decide +kernel
theorem dX7_read_88 : decode cX7_read 88 = .ok (.aload_n 0, 1) := by decide +kernel
theorem dX7_read_89 : decode cX7_read 89 = .ok (.getfield 56, 3) := by decide +kernel
theorem dX7_read_92 : decode cX7_read 92 = .ok (.ifCond .ne 7, 3) := by decide +kernel
theorem dX7_read_95 : decode cX7_read 95 = .ok (.aload_n 0, 1) := by decide +kernel
theorem dX7_read_96 : decode cX7_read 96 = .ok (.invokevirtual 69, 3) := by decide +kernel
theorem dX7_read_99 : decode cX7_read 99 = .ok (.aload_n 0, 1) := by decide +kernel
theorem dX7_read_100 : decode cX7_read 100 = .ok (.aload_n 0, 1) := by decide +kernel
theorem dX7_read_101 : decode cX7_read 101 = .ok (.getfield 34, 3) := by decide +kernel
theorem dX7_read_104 : decode cX7_read 104 = .ok (.aload_n 0, 1) := by decide +kernel
theorem dX7_read_105 : decode cX7_read 105 = .ok (.getfield 59, 3) := by decide +kernel
theorem dX7_read_108 : decode cX7_read 108 = .ok (.invokevirtual 72, 3) := by decide +kernel
theorem dX7_read_111 : decode cX7_read 111 = .ok (.putfield 76, 3) := by decide +kernel
theorem dX7_read_114 : decode cX7_read 114 = .ok (.aload_n 0, 1) := by decide +kernel
theorem dX7_read_115 : decode cX7_read 115 = .ok (.getfield 56, 3) := by decide +kernel
theorem dX7_read_118 : decode cX7_read 118 = .ok (.ireturn, 1) := by decide +kernel
theorem dX7_readFunction_0 : decode cX7_readFunction 0 = .ok (.aload_n 0, 1) := by decide +kernel
theorem dX7_readFunction_1 : decode cX7_readFunction 1 = .ok (.invokevirtual 65, 3) := by decide +kernel
theorem dX7_readFunction_4 : decode cX7_readFunction 4 = .ok (.iconst 5, 1) := by decide +kernel
theorem dX7_readFunction_5 : decode cX7_readFunction 5 = .ok (.if_icmp .eq 9, 3) := by decide +kernel
theorem dX7_readFunction_8 : decode cX7_readFunction 8 = .ok (.aload_n 0, 1) := by decide +kernel
theorem dX7_readFunction_9 : decode cX7_readFunction 9 = .ok (.iconst 1, 1) := by decide +kernel
theorem dX7_readFunction_10 : decode cX7_readFunction 10 = .ok (.invokevirtual 79, 3) := by decide +kernel
theorem dX7_readFunction_13 : decode cX7_readFunction 13 = .ok (.return_, 1) := by decide +kernel
theorem dX7_readFunction_14 : decode cX7_readFunction 14 = .ok (.aload_n 0, 1) := by decide +kernel
theorem dX7_readFunction_15 : decode cX7_readFunction 15 = .ok (.getfield 24, 3) := by decide +kernel
theorem dX7_readFunction_18 : decode cX7_readFunction 18 = .ok (.getfield 83, 3) := by decide +kernel
theorem dX7_readFunction_21 : decode cX7_readFunction 21 = .ok (.istore_n 1, 1) := by decide +kernel
theorem dX7_readFunction_22 : decode cX7_readFunction 22 = .ok (.iload_n 1, 1) := by decide +kernel
theorem dX7_readFunction_23 : decode cX7_readFunction 23 = .ok (.bipush 10, 2) := by decide +kernel
theorem dX7_readFunction_25 : decode cX7_readFunction 25 = .ok (.if_icmp .lt 9, 3) := by decide +kernel
theorem dX7_readFunction_28 : decode cX7_readFunction 28 = .ok (.aload_n 0, 1) := by decide +kernel
theorem dX7_readFunction_29 : decode cX7_readFunction 29 = .ok (.iconst 3, 1) := by decide +kernel
theorem dX7_readFunction_30 : decode cX7_readFunction 30 = .ok (.invokevirtual 79, 3) := by decide +kernel
theorem dX7_readFunction_33 : decode cX7_readFunction 33 = .ok (.return_, 1) := by decide +kernel
theorem dX7_readFunction_34 : decode cX7_readFunction 34 = .ok (.aload_n 0, 1) := by decide +kernel
theorem dX7_readFunction_35 : decode cX7_readFunction 35 = .ok (.getfield 24, 3) := by decide +kernel
theorem dX7_readFunction_38 : decode cX7_readFunction 38 = .ok (.getfield 86, 3) := by decide +kernel
theorem dX7_readFunction_41 : decode cX7_readFunction 41 = .ok (.iload_n 1, 1) := by decide +kernel
theorem dX7_readFunction_42 : decode cX7_readFunction 42 = .ok (.aaload, 1) := by decide +kernel
theorem dX7_readFunction_43 : decode cX7_readFunction 43 = .ok (.astore_n 2, 1) := by decide +kernel
theorem dX7_readFunction_44 : decode cX7_readFunction 44 = .ok (.aload_n 2, 1) := by decide +kernel
theorem dX7_readFunction_45 : decode cX7_readFunction 45 = .ok (.aload_n 0, 1) := by decide +kernel
theorem dX7_readFunction_46 : decode cX7_readFunction 46 = .ok (.getfield 49, 3) := by decide +kernel
theorem dX7_readFunction_49 : decode cX7_readFunction 49 = .ok (.aload_n 0, 1) := by decide +kernel
theorem dX7_readFunction_50 : decode cX7_readFunction 50 = .ok (.getfield 24, 3) := by decide +kernel
theorem dX7_readFunction_53 : decode cX7_readFunction 53 = .ok (.getfield 90, 3) := by decide +kernel
theorem dX7_readFunction_56 : decode cX7_readFunction 56 = .ok (.aload_n 0, 1) := by decide +kernel
theorem dX7_readFunction_57 : decode cX7_readFunction 57 = .ok (.getfield 39, 3) := by decide +kernel
theorem dX7_readFunction_60 : decode cX7_readFunction 60 = .ok (.getfield 93, 3) := by decide +kernel
theorem dX7_readFunction_63 : decode cX7_readFunction 63 = .ok (.invokevirtual 98, 3) := by decide +kernel
theorem dX7_readFunction_66 : decode cX7_readFunction 66 = .ok (.aload_n 0, 1) := by decide +kernel
theorem dX7_readFunction_67 : decode cX7_readFunction 67 = .ok (.dup, 1) := by decide +kernel
theorem dX7_readFunction_68 : decode cX7_readFunction 68 = .ok (.getfield 49, 3) := by decide +kernel
theorem dX7_readFunction_71 : decode cX7_readFunction 71 = .ok (.iconst 1, 1) := by decide +kernel
theorem dX7_readFunction_72 : decode cX7_readFunction 72 = .ok (.iadd, 1) := by decide +kernel
theorem dX7_readFunction_73 : decode cX7_readFunction 73 = .ok (.putfield 49, 3) := by decide +kernel
theorem dX7_readFunction_76 : decode cX7_readFunction 76 = .ok (.aload_n 0, 1) := by decide +kernel
theorem dX7_readFunction_77 : decode cX7_readFunction 77 = .ok (.aload_n 2, 1) := by decide +kernel
theorem dX7_readFunction_78 : decode cX7_readFunction 78 = .ok (.invokevirtual 104, 3) := by decide +kernel
theorem dX7_readFunction_81 : decode cX7_readFunction 81 = .ok (.aload_n 0, 1) := by decide +kernel
theorem dX7_readFunction_82 : decode cX7_readFunction 82 = .ok (.bipush 40, 2) := by decide +kernel
theorem dX7_readFunction_84 : decode cX7_readFunction 84 = .ok (.invokevirtual 108, 3) := by decide +kernel
theorem dX7_readFunction_87 : decode cX7_readFunction 87 = .ok (.aload_n 0, 1) := by decide +kernel
theorem dX7_readFunction_88 : decode cX7_readFunction 88 = .ok (.aload_n 2, 1) := by decide +kernel
theorem dX7_readFunction_89 : decode cX7_readFunction 89 = .ok (.invokevirtual 111, 3) := by decide +kernel
theorem dX7_readFunction_92 : decode cX7_readFunction 92 = .ok (.aload_n 0, 1) := by decide +kernel
theorem dX7_readFunction_93 : decode cX7_readFunction 93 = .ok (.bipush 41, 2) := by decide +kernel
theorem dX7_readFunction_95 : decode cX7_readFunction 95 = .ok (.invokevirtual 108, 3) := by decide +kernel
theorem dX7_readFunction_98 : decode cX7_readFunction 98 = .ok (.aload_n 0, 1) := by decide +kernel
theorem dX7_readFunction_99 : decode cX7_readFunction 99 = .ok (.iconst 1, 1) := by decide +kernel
theorem dX7_readFunction_100 : decode cX7_readFunction 100 = .ok (.invokevirtual 114, 3) := by decide +kernel
theorem dX7_readFunction_103 : decode cX7_readFunction 103 = .ok (.aload_n 0, 1) := by decide +kernel
theorem dX7_readFunction_104 : decode cX7_readFunction 104 = .ok (.getfield 39, 3) := by decide +kernel
theorem dX7_readFunction_107 : decode cX7_readFunction 107 = .ok (.bipush 16, 2) := by decide +kernel
theorem dX7_readFunction_109 : decode cX7_readFunction 109 = .ok (.iconst 0, 1) := by decide +kernel
theorem dX7_readFunction_110 : decode cX7_readFunction 110 = .ok (.iconst 0, 1) := by decide +kernel
theorem dX7_readFunction_111 : decode cX7_readFunction 111 = .ok (.invokevirtual 117, 3) := by decide +kernel
theorem dX7_readFunction_114 : decode cX7_readFunction 114 = .ok (.pop, 1) := by decide +kernel
theorem dX7_readFunction_115 : decode cX7_readFunction 115 = .ok (.aload_n 2, 1) := by decide +kernel
theorem dX7_readFunction_116 : decode cX7_readFunction 116 = .ok (.aload_n 0, 1) := by decide +kernel
theorem dX7_readFunction_117 : decode cX7_readFunction 117 = .ok (.getfield 49, 3) := by decide +kernel
theorem dX7_readFunction_120 : decode cX7_readFunction 120 = .ok (.iconst 1, 1) := by decide +kernel
theorem dX7_readFunction_121 : decode cX7_readFunction 121 = .ok (.isub, 1) := by decide +kernel
theorem dX7_readFunction_122 : decode cX7_readFunction 122 = .ok (.putfield 121, 3) := by decide +kernel
theorem dX7_readFunction_125 : decode cX7_readFunction 125 = .ok (.aload_n 2, 1) := by decide +kernel
theorem dX7_readFunction_126 : decode cX7_readFunction 126 = .ok (.aload_n 0, 1) := by decide +kernel
theorem dX7_readFunction_127 : decode cX7_readFunction 127 = .ok (.getfield 24, 3) := by decide +kernel
theorem dX7_readFunction_130 : decode cX7_readFunction 130 = .ok (.getfield 90, 3) := by decide +kernel
theorem dX7_readFunction_133 : decode cX7_readFunction 133 = .ok (.aload_n 2, 1) := by decide +kernel
theorem dX7_readFunction_134 : decode cX7_readFunction 134 = .ok (.getfield 124, 3) := by decide +kernel
theorem dX7_readFunction_137 : decode cX7_readFunction 137 = .ok (.isub, 1) := by decide +kernel
theorem dX7_readFunction_138 : decode cX7_readFunction 138 = .ok (.putfield 127, 3) := by decide +kernel
theorem dX7_readFunction_141 : decode cX7_readFunction 141 = .ok (.aload_n 0, 1) := by decide +kernel
theorem dX7_readFunction_142 : decode cX7_readFunction 142 = .ok (.getfield 24, 3) := by decide +kernel
theorem dX7_readFunction_145 : decode cX7_readFunction 145 = .ok (.dup, 1) := by decide +kernel
theorem dX7_readFunction_146 : decode cX7_readFunction 146 = .ok (.getfield 83, 3) := by decide +kernel
theorem dX7_readFunction_149 : decode cX7_readFunction 149 = .ok (.iconst 1, 1) := by decide +kernel
theorem dX7_readFunction_150 : decode cX7_readFunction 150 = .ok (.iadd, 1) := by decide +kernel
theorem dX7_readFunction_151 : decode cX7_readFunction 151 = .ok (.putfield 83, 3) := by decide +kernel
theorem dX7_readFunction_154 : decode cX7_readFunction 154 = .ok (.return_, 1) := by decide +kernel
theorem dX7_kind_0 : decode cX7_kind 0 = .ok (.aload_n 0, 1) := by decide +kernel
theorem dX7_kind_1 : decode cX7_kind 1 = .ok (.getfield 49, 3) := by decide +kernel
theorem dX7_kind_4 : decode cX7_kind 4 = .ok (.ifCond .lt 36, 3) := by decide +kernel
theorem dX7_kind_7 : decode cX7_kind 7 = .ok (.aload_n 0, 1) := by decide +kernel
theorem dX7_kind_8 : decode cX7_kind 8 = .ok (.getfield 49, 3) := by decide +kernel
theorem dX7_kind_11 : decode cX7_kind 11 = .ok (.aload_n 0, 1) := by decide +kernel
theorem dX7_kind_12 : decode cX7_kind 12 = .ok (.getfield 34, 3) := by decide +kernel
theorem dX7_kind_15 : decode cX7_kind 15 = .ok (.getfield 138, 3) := by decide +kernel
theorem dX7_kind_18 : decode cX7_kind 18 = .ok (.if_icmp .ge 22, 3) := by decide +kernel
theorem dX7_kind_21 : decode cX7_kind 21 = .ok (.aload_n 0, 1) := by decide +kernel
theorem dX7_kind_22 : decode cX7_kind 22 = .ok (.getfield 49, 3) := by decide +kernel
theorem dX7_kind_25 : decode cX7_kind 25 = .ok (.aload_n 0, 1) := by decide +kernel
theorem dX7_kind_26 : decode cX7_kind 26 = .ok (.getfield 34, 3) := by decide +kernel
theorem dX7_kind_29 : decode cX7_kind 29 = .ok (.getfield 212, 3) := by decide +kernel
theorem dX7_kind_32 : decode cX7_kind 32 = .ok (.arraylength, 1) := by decide +kernel
theorem dX7_kind_33 : decode cX7_kind 33 = .ok (.if_icmp .ge 7, 3) := by decide +kernel
theorem dX7_kind_36 : decode cX7_kind 36 = .ok (.iconst 1, 1) := by decide +kernel
theorem dX7_kind_37 : decode cX7_kind 37 = .ok (.goto 4, 3) := by decide +kernel
theorem dX7_kind_40 : decode cX7_kind 40 = .ok (.iconst 0, 1) := by decide +kernel
theorem dX7_kind_41 : decode cX7_kind 41 = .ok (.istore_n 1, 1) := by decide +kernel
theorem dX7_kind_42 : decode cX7_kind 42 = .ok (.iload_n 1, 1) := by decide +kernel
theorem dX7_kind_43 : decode cX7_kind 43 = .ok (.ifCond .eq 18, 3) := by decide +kernel
theorem dX7_kind_46 : decode cX7_kind 46 = .ok (.aload_n 0, 1) := by decide +kernel
theorem dX7_kind_47 : decode cX7_kind 47 = .ok (.getfield 34, 3) := by decide +kernel
theorem dX7_kind_50 : decode cX7_kind 50 = .ok (.getfield 212, 3) := by decide +kernel
theorem dX7_kind_53 : decode cX7_kind 53 = .ok (.aload_n 0, 1) := by decide +kernel
theorem dX7_kind_54 : decode cX7_kind 54 = .ok (.getfield 49, 3) := by decide +kernel
theorem dX7_kind_57 : decode cX7_kind 57 = .ok (.iaload, 1) := by decide +kernel
theorem dX7_kind_58 : decode cX7_kind 58 = .ok (.goto 4, 3) := by decide +kernel
theorem dX7_kind_61 : decode cX7_kind 61 = .ok (.iconst 0, 1) := by decide +kernel
theorem dX7_kind_62 : decode cX7_kind 62 = .ok (.ireturn, 1) := by decide +kernel
theorem dX7_fail_0 : decode cX7_fail 0 = .ok (.aload_n 0, 1) := by decide +kernel
theorem dX7_fail_1 : decode cX7_fail 1 = .ok (.getfield 56, 3) := by decide +kernel
theorem dX7_fail_4 : decode cX7_fail 4 = .ok (.ifCond .ne 16, 3) := by decide +kernel
theorem dX7_fail_7 : decode cX7_fail 7 = .ok (.aload_n 0, 1) := by decide +kernel
theorem dX7_fail_8 : decode cX7_fail 8 = .ok (.iload_n 1, 1) := by decide +kernel
theorem dX7_fail_9 : decode cX7_fail 9 = .ok (.putfield 56, 3) := by decide +kernel
theorem dX7_fail_12 : decode cX7_fail 12 = .ok (.aload_n 0, 1) := by decide +kernel
theorem dX7_fail_13 : decode cX7_fail 13 = .ok (.aload_n 0, 1) := by decide +kernel
theorem dX7_fail_14 : decode cX7_fail 14 = .ok (.getfield 49, 3) := by decide +kernel
theorem dX7_fail_17 : decode cX7_fail 17 = .ok (.putfield 59, 3) := by decide +kernel
theorem dX7_fail_20 : decode cX7_fail 20 = .ok (.aload_n 0, 1) := by decide +kernel
theorem dX7_fail_21 : decode cX7_fail 21 = .ok (.aload_n 0, 1) := by decide +kernel
theorem dX7_fail_22 : decode cX7_fail 22 = .ok (.getfield 34, 3) := by decide +kernel
theorem dX7_fail_25 : decode cX7_fail 25 = .ok (.getfield 138, 3) := by decide +kernel
theorem dX7_fail_28 : decode cX7_fail 28 = .ok (.iconst 1, 1) := by decide +kernel
theorem dX7_fail_29 : decode cX7_fail 29 = .ok (.isub, 1) := by decide +kernel
theorem dX7_fail_30 : decode cX7_fail 30 = .ok (.putfield 49, 3) := by decide +kernel
theorem dX7_fail_33 : decode cX7_fail 33 = .ok (.return_, 1) := by decide +kernel
theorem dX8_init_0 : decode cX8_init 0 = .ok (.aload_n 0, 1) := by decide +kernel
theorem dX8_init_1 : decode cX8_init 1 = .ok (.invokespecial 3, 3) := by decide +kernel
theorem dX8_init_4 : decode cX8_init 4 = .ok (.aload_n 0, 1) := by decide +kernel
theorem dX8_init_5 : decode cX8_init 5 = .ok (.sipush 600, 3) := by decide +kernel
theorem dX8_init_8 : decode cX8_init 8 = .ok (.newarray .byte, 2) := by decide +kernel
theorem dX8_init_10 : decode cX8_init 10 = .ok (.putfield 9, 3) := by decide +kernel
theorem dX8_init_13 : decode cX8_init 13 = .ok (.aload_n 0, 1) := by decide +kernel
theorem dX8_init_14 : decode cX8_init 14 = .ok (.sipush 601, 3) := by decide +kernel
theorem dX8_init_17 : decode cX8_init 17 = .ok (.newarray .int, 2) := by decide +kernel
theorem dX8_init_19 : decode cX8_init 19 = .ok (.putfield 15, 3) := by decide +kernel
theorem dX8_init_22 : decode cX8_init 22 = .ok (.aload_n 0, 1) := by decide +kernel
theorem dX8_init_23 : decode cX8_init 23 = .ok (.sipush 601, 3) := by decide +kernel
theorem dX8_init_26 : decode cX8_init 26 = .ok (.newarray .int, 2) := by decide +kernel
theorem dX8_init_28 : decode cX8_init 28 = .ok (.putfield 19, 3) := by decide +kernel
theorem dX8_init_31 : decode cX8_init 31 = .ok (.aload_n 0, 1) := by decide +kernel
theorem dX8_init_32 : decode cX8_init 32 = .ok (.sipush 601, 3) := by decide +kernel
theorem dX8_init_35 : decode cX8_init 35 = .ok (.newarray .int, 2) := by decide +kernel
theorem dX8_init_37 : decode cX8_init 37 = .ok (.putfield 22, 3) := by decide +kernel
theorem dX8_init_40 : decode cX8_init 40 = .ok (.return_, 1) := by decide +kernel
theorem dX8_cut_0 : decode cX8_cut 0 = .ok (.aload_n 0, 1) := by decide +kernel
theorem dX8_cut_1 : decode cX8_cut 1 = .ok (.iconst 0, 1) := by decide +kernel
theorem dX8_cut_2 : decode cX8_cut 2 = .ok (.iload_n 2, 1) := by decide +kernel
theorem dX8_cut_3 : decode cX8_cut 3 = .ok (.aload_n 1, 1) := by decide +kernel
theorem dX8_cut_4 : decode cX8_cut 4 = .ok (.arraylength, 1) := by decide +kernel
theorem dX8_cut_5 : decode cX8_cut 5 = .ok (.aload_n 0, 1) := by decide +kernel
theorem dX8_cut_6 : decode cX8_cut 6 = .ok (.getfield 9, 3) := by decide +kernel
theorem dX8_cut_9 : decode cX8_cut 9 = .ok (.arraylength, 1) := by decide +kernel
theorem dX8_cut_10 : decode cX8_cut 10 = .ok (.invokestatic 25, 3) := by decide +kernel
theorem dX8_cut_13 : decode cX8_cut 13 = .ok (.invokestatic 25, 3) := by decide +kernel
theorem dX8_cut_16 : decode cX8_cut 16 = .ok (.invokestatic 31, 3) := by decide +kernel
theorem dX8_cut_19 : decode cX8_cut 19 = .ok (.putfield 34, 3) := by decide +kernel
theorem dX8_cut_22 : decode cX8_cut 22 = .ok (.aload_n 1, 1) := by decide +kernel
theorem dX8_cut_23 : decode cX8_cut 23 = .ok (.iconst 0, 1) := by decide +kernel
theorem dX8_cut_24 : decode cX8_cut 24 = .ok (.aload_n 0, 1) := by decide +kernel
theorem dX8_cut_25 : decode cX8_cut 25 = .ok (.getfield 9, 3) := by decide +kernel
theorem dX8_cut_28 : decode cX8_cut 28 = .ok (.iconst 0, 1) := by decide +kernel
theorem dX8_cut_29 : decode cX8_cut 29 = .ok (.aload_n 0, 1) := by decide +kernel
theorem dX8_cut_30 : decode cX8_cut 30 = .ok (.getfield 34, 3) := by decide +kernel
theorem dX8_cut_33 : decode cX8_cut 33 = .ok (.invokestatic 38, 3) := by decide +kernel
theorem dX8_cut_36 : decode cX8_cut 36 = .ok (.aload_n 0, 1) := by decide +kernel
theorem dX8_cut_37 : decode cX8_cut 37 = .ok (.iconst 0, 1) := by decide +kernel
theorem dX8_cut_38 : decode cX8_cut 38 = .ok (.putfield 44, 3) := by decide +kernel
theorem dX8_cut_41 : decode cX8_cut 41 = .ok (.iconst 0, 1) := by decide +kernel
theorem dX8_cut_42 : decode cX8_cut 42 = .ok (.istore_n 3, 1) := by decide +kernel
theorem dX8_cut_43 : decode cX8_cut 43 = .ok (.iload_n 3, 1) := by decide +kernel
theorem dX8_cut_44 : decode cX8_cut 44 = .ok (.aload_n 0, 1) := by decide +kernel
theorem dX8_cut_45 : decode cX8_cut 45 = .ok (.getfield 34, 3) := by decide +kernel
theorem dX8_cut_48 : decode cX8_cut 48 = .ok (.if_icmp .ge 75, 3) := by decide +kernel
theorem dX8_cut_51 : decode cX8_cut 51 = .ok (.aload_n 0, 1) := by decide +kernel
theorem dX8_cut_52 : decode cX8_cut 52 = .ok (.getfield 9, 3) := by decide +kernel
theorem dX8_cut_55 : decode cX8_cut 55 = .ok (.iload_n 3, 1) := by decide +kernel
theorem dX8_cut_56 : decode cX8_cut 56 = .ok (.baload, 1) := by decide +kernel
theorem dX8_cut_57 : decode cX8_cut 57 = .ok (.bipush 32, 2) := by decide +kernel
theorem dX8_cut_59 : decode cX8_cut 59 = .ok (.if_icmp .eq 58, 3) := by decide +kernel
theorem dX8_cut_62 : decode cX8_cut 62 = .ok (.aload_n 0, 1) := by decide +kernel
theorem dX8_cut_63 : decode cX8_cut 63 = .ok (.getfield 9, 3) := by decide +kernel
theorem dX8_cut_66 : decode cX8_cut 66 = .ok (.iload_n 3, 1) := by decide +kernel
theorem dX8_cut_67 : decode cX8_cut 67 = .ok (.baload, 1) := by decide +kernel
theorem dX8_cut_68 : decode cX8_cut 68 = .ok (.bipush 10, 2) := by decide +kernel
theorem dX8_cut_70 : decode cX8_cut 70 = .ok (.if_icmp .ne 6, 3) := by decide +kernel
theorem dX8_cut_73 : decode cX8_cut 73 = .ok (.goto 44, 3) := by decide +kernel
theorem dX8_cut_76 : decode cX8_cut 76 = .ok (.aload_n 0, 1) := by decide +kernel
theorem dX8_cut_77 : decode cX8_cut 77 = .ok (.iload_n 3, 1) := by decide +kernel
theorem dX8_cut_78 : decode cX8_cut 78 = .ok (.invokevirtual 47, 3) := by decide +kernel
theorem dX8_cut_81 : decode cX8_cut 81 = .ok (.istore 4, 2) := by decide +kernel
theorem dX8_cut_83 : decode cX8_cut 83 = .ok (.iload 4, 2) := by decide +kernel
theorem dX8_cut_85 : decode cX8_cut 85 = .ok (.ifCond .ne 11, 3) := by decide +kernel
theorem dX8_cut_88 : decode cX8_cut 88 = .ok (.aload_n 0, 1) := by decide +kernel
theorem dX8_cut_89 : decode cX8_cut 89 = .ok (.iconst 1, 1) := by decide +kernel
theorem dX8_cut_90 : decode cX8_cut 90 = .ok (.iload_n 3, 1) := by decide +kernel
theorem dX8_cut_91 : decode cX8_cut 91 = .ok (.iconst 0, 1) := by decide +kernel
theorem dX8_cut_92 : decode cX8_cut 92 = .ok (.invokevirtual 51, 3) := by decide +kernel
theorem dX8_cut_95 : decode cX8_cut 95 = .ok (.return_, 1) := by decide +kernel
theorem dX8_cut_96 : decode cX8_cut 96 = .ok (.aload_n 0, 1) := by decide +kernel
theorem dX8_cut_97 : decode cX8_cut 97 = .ok (.aload_n 0, 1) := by decide +kernel
theorem dX8_cut_98 : decode cX8_cut 98 = .ok (.iload_n 3, 1) := by decide +kernel
theorem dX8_cut_99 : decode cX8_cut 99 = .ok (.iload 4, 2) := by decide +kernel
theorem dX8_cut_101 : decode cX8_cut 101 = .ok (.invokevirtual 55, 3) := by decide +kernel
theorem dX8_cut_104 : decode cX8_cut 104 = .ok (.iload_n 3, 1) := by decide +kernel
theorem dX8_cut_105 : decode cX8_cut 105 = .ok (.iload 4, 2) := by decide +kernel
theorem dX8_cut_107 : decode cX8_cut 107 = .ok (.invokevirtual 51, 3) := by decide +kernel
theorem dX8_cut_110 : decode cX8_cut 110 = .ok (.iload_n 3, 1) := by decide +kernel
theorem dX8_cut_111 : decode cX8_cut 111 = .ok (.iload 4, 2) := by decide +kernel
theorem dX8_cut_113 : decode cX8_cut 113 = .ok (.iconst 1, 1) := by decide +kernel
theorem dX8_cut_114 : decode cX8_cut 114 = .ok (.isub, 1) := by decide +kernel
theorem dX8_cut_115 : decode cX8_cut 115 = .ok (.iadd, 1) := by decide +kernel
theorem dX8_cut_116 : decode cX8_cut 116 = .ok (.istore_n 3, 1) := by decide +kernel
theorem dX8_cut_117 : decode cX8_cut 117 = .ok (.iinc 3 1, 3) := by decide +kernel
theorem dX8_cut_120 : decode cX8_cut 120 = .ok (.goto (-77), 3) := by decide +kernel
theorem dX8_cut_123 : decode cX8_cut 123 = .ok (.aload_n 0, 1) := by decide +kernel
theorem dX8_cut_124 : decode cX8_cut 124 = .ok (.iconst 0, 1) := by decide +kernel
theorem dX8_cut_125 : decode cX8_cut 125 = .ok (.aload_n 0, 1) := by decide +kernel
theorem dX8_cut_126 : decode cX8_cut 126 = .ok (.getfield 34, 3) := by decide +kernel
theorem dX8_cut_129 : decode cX8_cut 129 = .ok (.iconst 0, 1) := by decide +kernel
theorem dX8_cut_130 : decode cX8_cut 130 = .ok (.invokevirtual 51, 3) := by decide +kernel
theorem dX8_cut_133 : decode cX8_cut 133 = .ok (.return_, 1) := by decide +kernel
theorem dX8_placeOf_0 : decode cX8_placeOf 0 = .ok (.aload_n 0, 1) := by decide +kernel
theorem dX8_placeOf_1 : decode cX8_placeOf 1 = .ok (.iload_n 1, 1) := by decide +kernel
theorem dX8_placeOf_2 : decode cX8_placeOf 2 = .ok (.invokevirtual 58, 3) := by decide +kernel
theorem dX8_placeOf_5 : decode cX8_placeOf 5 = .ok (.ifCond .eq 12, 3) := by decide +kernel
theorem dX8_placeOf_8 : decode cX8_placeOf 8 = .ok (.aload_n 0, 1) := by decide +kernel
theorem dX8_placeOf_9 : decode cX8_placeOf 9 = .ok (.getfield 19, 3) := by decide +kernel
theorem dX8_placeOf_12 : decode cX8_placeOf 12 = .ok (.iload_n 1, 1) := by decide +kernel
theorem dX8_placeOf_13 : decode cX8_placeOf 13 = .ok (.iaload, 1) := by decide +kernel
theorem dX8_placeOf_14 : decode cX8_placeOf 14 = .ok (.goto 7, 3) := by decide +kernel
theorem dX8_placeOf_17 : decode cX8_placeOf 17 = .ok (.aload_n 0, 1) := by decide +kernel
theorem dX8_placeOf_18 : decode cX8_placeOf 18 = .ok (.getfield 34, 3) := by decide +kernel
theorem dX8_placeOf_21 : decode cX8_placeOf 21 = .ok (.ireturn, 1) := by decide +kernel
theorem dX8_has_0 : decode cX8_has 0 = .ok (.iload_n 1, 1) := by decide +kernel
theorem dX8_has_1 : decode cX8_has 1 = .ok (.ifCond .lt 24, 3) := by decide +kernel
theorem dX8_has_4 : decode cX8_has 4 = .ok (.iload_n 1, 1) := by decide +kernel
theorem dX8_has_5 : decode cX8_has 5 = .ok (.aload_n 0, 1) := by decide +kernel
theorem dX8_has_6 : decode cX8_has 6 = .ok (.getfield 44, 3) := by decide +kernel
theorem dX8_has_9 : decode cX8_has 9 = .ok (.if_icmp .ge 16, 3) := by decide +kernel
theorem dX8_has_12 : decode cX8_has 12 = .ok (.iload_n 1, 1) := by decide +kernel
theorem dX8_has_13 : decode cX8_has 13 = .ok (.aload_n 0, 1) := by decide +kernel
theorem dX8_has_14 : decode cX8_has 14 = .ok (.getfield 15, 3) := by decide +kernel
theorem dX8_has_17 : decode cX8_has 17 = .ok (.arraylength, 1) := by decide +kernel
theorem dX8_has_18 : decode cX8_has 18 = .ok (.if_icmp .ge 7, 3) := by decide +kernel
theorem dX8_has_21 : decode cX8_has 21 = .ok (.iconst 1, 1) := by decide +kernel
theorem dX8_has_22 : decode cX8_has 22 = .ok (.goto 4, 3) := by decide +kernel
theorem dX8_has_25 : decode cX8_has 25 = .ok (.iconst 0, 1) := by decide +kernel
theorem dX8_has_26 : decode cX8_has 26 = .ok (.ireturn, 1) := by decide +kernel
theorem dX8_add_0 : decode cX8_add 0 = .ok (.aload_n 0, 1) := by decide +kernel
theorem dX8_add_1 : decode cX8_add 1 = .ok (.getfield 44, 3) := by decide +kernel
theorem dX8_add_4 : decode cX8_add 4 = .ok (.aload_n 0, 1) := by decide +kernel
theorem dX8_add_5 : decode cX8_add 5 = .ok (.getfield 15, 3) := by decide +kernel
theorem dX8_add_8 : decode cX8_add 8 = .ok (.arraylength, 1) := by decide +kernel
theorem dX8_add_9 : decode cX8_add 9 = .ok (.if_icmp .ge 43, 3) := by decide +kernel
theorem dX8_add_12 : decode cX8_add 12 = .ok (.aload_n 0, 1) := by decide +kernel
theorem dX8_add_13 : decode cX8_add 13 = .ok (.getfield 15, 3) := by decide +kernel
theorem dX8_add_16 : decode cX8_add 16 = .ok (.aload_n 0, 1) := by decide +kernel
theorem dX8_add_17 : decode cX8_add 17 = .ok (.getfield 44, 3) := by decide +kernel
theorem dX8_add_20 : decode cX8_add 20 = .ok (.iload_n 1, 1) := by decide +kernel
theorem dX8_add_21 : decode cX8_add 21 = .ok (.iastore, 1) := by decide +kernel
theorem dX8_add_22 : decode cX8_add 22 = .ok (.aload_n 0, 1) := by decide +kernel
theorem dX8_add_23 : decode cX8_add 23 = .ok (.getfield 19, 3) := by decide +kernel
theorem dX8_add_26 : decode cX8_add 26 = .ok (.aload_n 0, 1) := by decide +kernel
theorem dX8_add_27 : decode cX8_add 27 = .ok (.getfield 44, 3) := by decide +kernel
theorem dX8_add_30 : decode cX8_add 30 = .ok (.iload_n 2, 1) := by decide +kernel
theorem dX8_add_31 : decode cX8_add 31 = .ok (.iastore, 1) := by decide +kernel
theorem dX8_add_32 : decode cX8_add 32 = .ok (.aload_n 0, 1) := by decide +kernel
theorem dX8_add_33 : decode cX8_add 33 = .ok (.getfield 22, 3) := by decide +kernel
theorem dX8_add_36 : decode cX8_add 36 = .ok (.aload_n 0, 1) := by decide +kernel
theorem dX8_add_37 : decode cX8_add 37 = .ok (.getfield 44, 3) := by decide +kernel
theorem dX8_add_40 : decode cX8_add 40 = .ok (.iload_n 3, 1) := by decide +kernel
theorem dX8_add_41 : decode cX8_add 41 = .ok (.iastore, 1) := by decide +kernel
theorem dX8_add_42 : decode cX8_add 42 = .ok (.aload_n 0, 1) := by decide +kernel
theorem dX8_add_43 : decode cX8_add 43 = .ok (.dup, 1) := by decide +kernel
theorem dX8_add_44 : decode cX8_add 44 = .ok (.getfield 44, 3) := by decide +kernel
theorem dX8_add_47 : decode cX8_add 47 = .ok (.iconst 1, 1) := by decide +kernel
theorem dX8_add_48 : decode cX8_add 48 = .ok (.iadd, 1) := by decide +kernel
theorem dX8_add_49 : decode cX8_add 49 = .ok (.putfield 44, 3) := by decide +kernel
theorem dX8_add_52 : decode cX8_add 52 = .ok (.return_, 1) := by decide +kernel
theorem dX9_init_0 : decode cX9_init 0 = .ok (.aload_n 0, 1) := by decide +kernel
theorem dX9_init_1 : decode cX9_init 1 = .ok (.invokespecial 3, 3) := by decide +kernel
theorem dX9_init_4 : decode cX9_init 4 = .ok (.aload_n 0, 1) := by decide +kernel
theorem dX9_init_5 : decode cX9_init 5 = .ok (.bipush 12, 2) := by decide +kernel
theorem dX9_init_7 : decode cX9_init 7 = .ok (.newarray .long, 2) := by decide +kernel
theorem dX9_init_9 : decode cX9_init 9 = .ok (.putfield 11, 3) := by decide +kernel
theorem dX9_init_12 : decode cX9_init 12 = .ok (.aload_n 0, 1) := by decide +kernel
theorem dX9_init_13 : decode cX9_init 13 = .ok (.bipush 12, 2) := by decide +kernel
theorem dX9_init_15 : decode cX9_init 15 = .ok (.newarray .int, 2) := by decide +kernel
theorem dX9_init_17 : decode cX9_init 17 = .ok (.putfield 15, 3) := by decide +kernel
theorem dX9_init_20 : decode cX9_init 20 = .ok (.aload_n 0, 1) := by decide +kernel
theorem dX9_init_21 : decode cX9_init 21 = .ok (.iconst (-1), 1) := by decide +kernel
theorem dX9_init_22 : decode cX9_init 22 = .ok (.putfield 19, 3) := by decide +kernel
theorem dX9_init_25 : decode cX9_init 25 = .ok (.return_, 1) := by decide +kernel
theorem dX9_shownLines_0 : decode cX9_shownLines 0 = .ok (.aload_n 0, 1) := by decide +kernel
theorem dX9_shownLines_1 : decode cX9_shownLines 1 = .ok (.iconst 1, 1) := by decide +kernel
theorem dX9_shownLines_2 : decode cX9_shownLines 2 = .ok (.aload_n 0, 1) := by decide +kernel
theorem dX9_shownLines_3 : decode cX9_shownLines 3 = .ok (.getfield 23, 3) := by decide +kernel
theorem dX9_shownLines_6 : decode cX9_shownLines 6 = .ok (.ishl, 1) := by decide +kernel
theorem dX9_shownLines_7 : decode cX9_shownLines 7 = .ok (.iconst 1, 1) := by decide +kernel
theorem dX9_shownLines_8 : decode cX9_shownLines 8 = .ok (.isub, 1) := by decide +kernel
theorem dX9_shownLines_9 : decode cX9_shownLines 9 = .ok (.invokevirtual 33, 3) := by decide +kernel
theorem dX9_shownLines_12 : decode cX9_shownLines 12 = .ok (.lreturn, 1) := by decide +kernel
theorem dX9_chooseFewest_0 : decode cX9_chooseFewest 0 = .ok (.aload_n 0, 1) := by decide +kernel
theorem dX9_chooseFewest_1 : decode cX9_chooseFewest 1 = .ok (.getfield 19, 3) := by decide +kernel
theorem dX9_chooseFewest_4 : decode cX9_chooseFewest 4 = .ok (.aload_n 0, 1) := by decide +kernel
theorem dX9_chooseFewest_5 : decode cX9_chooseFewest 5 = .ok (.getfield 23, 3) := by decide +kernel
theorem dX9_chooseFewest_8 : decode cX9_chooseFewest 8 = .ok (.if_icmp .eq 19, 3) := by decide +kernel
theorem dX9_chooseFewest_11 : decode cX9_chooseFewest 11 = .ok (.aload_n 0, 1) := by decide +kernel
theorem dX9_chooseFewest_12 : decode cX9_chooseFewest 12 = .ok (.aload_n 0, 1) := by decide +kernel
theorem dX9_chooseFewest_13 : decode cX9_chooseFewest 13 = .ok (.invokevirtual 37, 3) := by decide +kernel
theorem dX9_chooseFewest_16 : decode cX9_chooseFewest 16 = .ok (.invokevirtual 41, 3) := by decide +kernel
theorem dX9_chooseFewest_19 : decode cX9_chooseFewest 19 = .ok (.aload_n 0, 1) := by decide +kernel
theorem dX9_chooseFewest_20 : decode cX9_chooseFewest 20 = .ok (.aload_n 0, 1) := by decide +kernel
theorem dX9_chooseFewest_21 : decode cX9_chooseFewest 21 = .ok (.getfield 23, 3) := by decide +kernel
theorem dX9_chooseFewest_24 : decode cX9_chooseFewest 24 = .ok (.putfield 19, 3) := by decide +kernel
theorem dX9_chooseFewest_27 : decode cX9_chooseFewest 27 = .ok (.aload_n 0, 1) := by decide +kernel
theorem dX9_chooseFewest_28 : decode cX9_chooseFewest 28 = .ok (.getfield 26, 3) := by decide +kernel
theorem dX9_chooseFewest_31 : decode cX9_chooseFewest 31 = .ok (.ireturn, 1) := by decide +kernel
theorem dX9_chosenAt_0 : decode cX9_chosenAt 0 = .ok (.iload_n 1, 1) := by decide +kernel
theorem dX9_chosenAt_1 : decode cX9_chosenAt 1 = .ok (.ifCond .lt 29, 3) := by decide +kernel
theorem dX9_chosenAt_4 : decode cX9_chosenAt 4 = .ok (.iload_n 1, 1) := by decide +kernel
theorem dX9_chosenAt_5 : decode cX9_chosenAt 5 = .ok (.aload_n 0, 1) := by decide +kernel
theorem dX9_chosenAt_6 : decode cX9_chosenAt 6 = .ok (.getfield 26, 3) := by decide +kernel
theorem dX9_chosenAt_9 : decode cX9_chosenAt 9 = .ok (.if_icmp .ge 21, 3) := by decide +kernel
theorem dX9_chosenAt_12 : decode cX9_chosenAt 12 = .ok (.iload_n 1, 1) := by decide +kernel
theorem dX9_chosenAt_13 : decode cX9_chosenAt 13 = .ok (.aload_n 0, 1) := by decide +kernel
theorem dX9_chosenAt_14 : decode cX9_chosenAt 14 = .ok (.getfield 15, 3) := by decide +kernel
theorem dX9_chosenAt_17 : decode cX9_chosenAt 17 = .ok (.arraylength, 1) := by decide +kernel
theorem dX9_chosenAt_18 : decode cX9_chosenAt 18 = .ok (.if_icmp .ge 12, 3) := by decide +kernel
theorem dX9_chosenAt_21 : decode cX9_chosenAt 21 = .ok (.aload_n 0, 1) := by decide +kernel
theorem dX9_chosenAt_22 : decode cX9_chosenAt 22 = .ok (.getfield 15, 3) := by decide +kernel
theorem dX9_chosenAt_25 : decode cX9_chosenAt 25 = .ok (.iload_n 1, 1) := by decide +kernel
theorem dX9_chosenAt_26 : decode cX9_chosenAt 26 = .ok (.iaload, 1) := by decide +kernel
theorem dX9_chosenAt_27 : decode cX9_chosenAt 27 = .ok (.goto 4, 3) := by decide +kernel
theorem dX9_chosenAt_30 : decode cX9_chosenAt 30 = .ok (.iconst (-1), 1) := by decide +kernel
theorem dX9_chosenAt_31 : decode cX9_chosenAt 31 = .ok (.ireturn, 1) := by decide +kernel
theorem dX9_fewestSet_0 : decode cX9_fewestSet 0 = .ok (.iconst 1, 1) := by decide +kernel
theorem dX9_fewestSet_1 : decode cX9_fewestSet 1 = .ok (.aload_n 0, 1) := by decide +kernel
theorem dX9_fewestSet_2 : decode cX9_fewestSet 2 = .ok (.getfield 23, 3) := by decide +kernel
theorem dX9_fewestSet_5 : decode cX9_fewestSet 5 = .ok (.ishl, 1) := by decide +kernel
theorem dX9_fewestSet_6 : decode cX9_fewestSet 6 = .ok (.iconst 1, 1) := by decide +kernel
theorem dX9_fewestSet_7 : decode cX9_fewestSet 7 = .ok (.isub, 1) := by decide +kernel
theorem dX9_fewestSet_8 : decode cX9_fewestSet 8 = .ok (.istore_n 1, 1) := by decide +kernel
theorem dX9_fewestSet_9 : decode cX9_fewestSet 9 = .ok (.aload_n 0, 1) := by decide +kernel
theorem dX9_fewestSet_10 : decode cX9_fewestSet 10 = .ok (.iload_n 1, 1) := by decide +kernel
theorem dX9_fewestSet_11 : decode cX9_fewestSet 11 = .ok (.invokevirtual 33, 3) := by decide +kernel
theorem dX9_fewestSet_14 : decode cX9_fewestSet 14 = .ok (.lstore_n 2, 1) := by decide +kernel
theorem dX9_fewestSet_15 : decode cX9_fewestSet 15 = .ok (.iload_n 1, 1) := by decide +kernel
theorem dX9_fewestSet_16 : decode cX9_fewestSet 16 = .ok (.iconst 1, 1) := by decide +kernel
theorem dX9_fewestSet_17 : decode cX9_fewestSet 17 = .ok (.isub, 1) := by decide +kernel
theorem dX9_fewestSet_18 : decode cX9_fewestSet 18 = .ok (.istore 4, 2) := by decide +kernel
theorem dX9_fewestSet_20 : decode cX9_fewestSet 20 = .ok (.iload 4, 2) := by decide +kernel
theorem dX9_fewestSet_22 : decode cX9_fewestSet 22 = .ok (.ifCond .lt 35, 3) := by decide +kernel
theorem dX9_fewestSet_25 : decode cX9_fewestSet 25 = .ok (.iload 4, 2) := by decide +kernel
theorem dX9_fewestSet_27 : decode cX9_fewestSet 27 = .ok (.invokestatic 45, 3) := by decide +kernel
theorem dX9_fewestSet_30 : decode cX9_fewestSet 30 = .ok (.iload_n 1, 1) := by decide +kernel
theorem dX9_fewestSet_31 : decode cX9_fewestSet 31 = .ok (.invokestatic 45, 3) := by decide +kernel
theorem dX9_fewestSet_34 : decode cX9_fewestSet 34 = .ok (.if_icmp .ge 17, 3) := by decide +kernel
theorem dX9_fewestSet_37 : decode cX9_fewestSet 37 = .ok (.aload_n 0, 1) := by decide +kernel
theorem dX9_fewestSet_38 : decode cX9_fewestSet 38 = .ok (.iload 4, 2) := by decide +kernel
theorem dX9_fewestSet_40 : decode cX9_fewestSet 40 = .ok (.invokevirtual 33, 3) := by decide +kernel
theorem dX9_fewestSet_43 : decode cX9_fewestSet 43 = .ok (.lload_n 2, 1) := by decide +kernel
theorem dX9_fewestSet_44 : decode cX9_fewestSet 44 = .ok (.lcmp, 1) := by decide +kernel
theorem dX9_fewestSet_45 : decode cX9_fewestSet 45 = .ok (.ifCond .ne 6, 3) := by decide +kernel
theorem dX9_fewestSet_48 : decode cX9_fewestSet 48 = .ok (.iload 4, 2) := by decide +kernel
theorem dX9_fewestSet_50 : decode cX9_fewestSet 50 = .ok (.istore_n 1, 1) := by decide +kernel
theorem dX9_fewestSet_51 : decode cX9_fewestSet 51 = .ok (.iinc 4 (-1), 3) := by decide +kernel
theorem dX9_fewestSet_54 : decode cX9_fewestSet 54 = .ok (.goto (-34), 3) := by decide +kernel
theorem dX9_fewestSet_57 : decode cX9_fewestSet 57 = .ok (.iload_n 1, 1) := by decide +kernel
theorem dX9_fewestSet_58 : decode cX9_fewestSet 58 = .ok (.ireturn, 1) := by decide +kernel
theorem dX9_choose_0 : decode cX9_choose 0 = .ok (.aload_n 0, 1) := by decide +kernel
theorem dX9_choose_1 : decode cX9_choose 1 = .ok (.iconst 0, 1) := by decide +kernel
theorem dX9_choose_2 : decode cX9_choose 2 = .ok (.putfield 26, 3) := by decide +kernel
theorem dX9_choose_5 : decode cX9_choose 5 = .ok (.iconst 0, 1) := by decide +kernel
theorem dX9_choose_6 : decode cX9_choose 6 = .ok (.istore_n 2, 1) := by decide +kernel
theorem dX9_choose_7 : decode cX9_choose 7 = .ok (.iload_n 2, 1) := by decide +kernel
theorem dX9_choose_8 : decode cX9_choose 8 = .ok (.aload_n 0, 1) := by decide +kernel
theorem dX9_choose_9 : decode cX9_choose 9 = .ok (.getfield 23, 3) := by decide +kernel
theorem dX9_choose_12 : decode cX9_choose 12 = .ok (.if_icmp .ge 47, 3) := by decide +kernel
theorem dX9_choose_15 : decode cX9_choose 15 = .ok (.iload_n 2, 1) := by decide +kernel
theorem dX9_choose_16 : decode cX9_choose 16 = .ok (.aload_n 0, 1) := by decide +kernel
theorem dX9_choose_17 : decode cX9_choose 17 = .ok (.getfield 15, 3) := by decide +kernel
theorem dX9_choose_20 : decode cX9_choose 20 = .ok (.arraylength, 1) := by decide +kernel
theorem dX9_choose_21 : decode cX9_choose 21 = .ok (.if_icmp .ge 38, 3) := by decide +kernel
theorem dX9_choose_24 : decode cX9_choose 24 = .ok (.aload_n 0, 1) := by decide +kernel
theorem dX9_choose_25 : decode cX9_choose 25 = .ok (.iload_n 1, 1) := by decide +kernel
theorem dX9_choose_26 : decode cX9_choose 26 = .ok (.iload_n 2, 1) := by decide +kernel
theorem dX9_choose_27 : decode cX9_choose 27 = .ok (.invokevirtual 51, 3) := by decide +kernel
theorem dX9_choose_30 : decode cX9_choose 30 = .ok (.ifCond .eq 23, 3) := by decide +kernel
theorem dX9_choose_33 : decode cX9_choose 33 = .ok (.aload_n 0, 1) := by decide +kernel
theorem dX9_choose_34 : decode cX9_choose 34 = .ok (.getfield 15, 3) := by decide +kernel
theorem dX9_choose_37 : decode cX9_choose 37 = .ok (.aload_n 0, 1) := by decide +kernel
theorem dX9_choose_38 : decode cX9_choose 38 = .ok (.getfield 26, 3) := by decide +kernel
theorem dX9_choose_41 : decode cX9_choose 41 = .ok (.iload_n 2, 1) := by decide +kernel
theorem dX9_choose_42 : decode cX9_choose 42 = .ok (.iastore, 1) := by decide +kernel
theorem dX9_choose_43 : decode cX9_choose 43 = .ok (.aload_n 0, 1) := by decide +kernel
theorem dX9_choose_44 : decode cX9_choose 44 = .ok (.dup, 1) := by decide +kernel
theorem dX9_choose_45 : decode cX9_choose 45 = .ok (.getfield 26, 3) := by decide +kernel
theorem dX9_choose_48 : decode cX9_choose 48 = .ok (.iconst 1, 1) := by decide +kernel
theorem dX9_choose_49 : decode cX9_choose 49 = .ok (.iadd, 1) := by decide +kernel
theorem dX9_choose_50 : decode cX9_choose 50 = .ok (.putfield 26, 3) := by decide +kernel
theorem dX9_choose_53 : decode cX9_choose 53 = .ok (.iinc 2 1, 3) := by decide +kernel
theorem dX9_choose_56 : decode cX9_choose 56 = .ok (.goto (-49), 3) := by decide +kernel
theorem dX9_choose_59 : decode cX9_choose 59 = .ok (.return_, 1) := by decide +kernel
theorem dX9_linesOf_0 : decode cX9_linesOf 0 = .ok (.lconst 0, 1) := by decide +kernel
theorem dX9_linesOf_1 : decode cX9_linesOf 1 = .ok (.lstore_n 2, 1) := by decide +kernel
theorem dX9_linesOf_2 : decode cX9_linesOf 2 = .ok (.iconst 0, 1) := by decide +kernel
theorem dX9_linesOf_3 : decode cX9_linesOf 3 = .ok (.istore 4, 2) := by decide +kernel
theorem dX9_linesOf_5 : decode cX9_linesOf 5 = .ok (.iload 4, 2) := by decide +kernel
theorem dX9_linesOf_7 : decode cX9_linesOf 7 = .ok (.aload_n 0, 1) := by decide +kernel
theorem dX9_linesOf_8 : decode cX9_linesOf 8 = .ok (.getfield 23, 3) := by decide +kernel
theorem dX9_linesOf_11 : decode cX9_linesOf 11 = .ok (.if_icmp .ge 39, 3) := by decide +kernel
theorem dX9_linesOf_14 : decode cX9_linesOf 14 = .ok (.iload 4, 2) := by decide +kernel
theorem dX9_linesOf_16 : decode cX9_linesOf 16 = .ok (.aload_n 0, 1) := by decide +kernel
theorem dX9_linesOf_17 : decode cX9_linesOf 17 = .ok (.getfield 11, 3) := by decide +kernel
theorem dX9_linesOf_20 : decode cX9_linesOf 20 = .ok (.arraylength, 1) := by decide +kernel
theorem dX9_linesOf_21 : decode cX9_linesOf 21 = .ok (.if_icmp .ge 29, 3) := by decide +kernel
theorem dX9_linesOf_24 : decode cX9_linesOf 24 = .ok (.aload_n 0, 1) := by decide +kernel
theorem dX9_linesOf_25 : decode cX9_linesOf 25 = .ok (.iload_n 1, 1) := by decide +kernel
theorem dX9_linesOf_26 : decode cX9_linesOf 26 = .ok (.iload 4, 2) := by decide +kernel
theorem dX9_linesOf_28 : decode cX9_linesOf 28 = .ok (.invokevirtual 51, 3) := by decide +kernel
theorem dX9_linesOf_31 : decode cX9_linesOf 31 = .ok (.ifCond .eq 13, 3) := by decide +kernel
theorem dX9_linesOf_34 : decode cX9_linesOf 34 = .ok (.lload_n 2, 1) := by decide +kernel
theorem dX9_linesOf_35 : decode cX9_linesOf 35 = .ok (.aload_n 0, 1) := by decide +kernel
theorem dX9_linesOf_36 : decode cX9_linesOf 36 = .ok (.getfield 11, 3) := by decide +kernel
theorem dX9_linesOf_39 : decode cX9_linesOf 39 = .ok (.iload 4, 2) := by decide +kernel
theorem dX9_linesOf_41 : decode cX9_linesOf 41 = .ok (.laload, 1) := by decide +kernel
theorem dX9_linesOf_42 : decode cX9_linesOf 42 = .ok (.lor, 1) := by decide +kernel
theorem dX9_linesOf_43 : decode cX9_linesOf 43 = .ok (.lstore_n 2, 1) := by decide +kernel
theorem dX9_linesOf_44 : decode cX9_linesOf 44 = .ok (.iinc 4 1, 3) := by decide +kernel
theorem dX9_linesOf_47 : decode cX9_linesOf 47 = .ok (.goto (-42), 3) := by decide +kernel
theorem dX9_linesOf_50 : decode cX9_linesOf 50 = .ok (.lload_n 2, 1) := by decide +kernel
theorem dX9_linesOf_51 : decode cX9_linesOf 51 = .ok (.lreturn, 1) := by decide +kernel
theorem dX10_init_0 : decode cX10_init 0 = .ok (.aload_n 0, 1) := by decide +kernel
theorem dX10_init_1 : decode cX10_init 1 = .ok (.invokespecial 1, 3) := by decide +kernel
theorem dX10_init_4 : decode cX10_init 4 = .ok (.aload_n 0, 1) := by decide +kernel
theorem dX10_init_5 : decode cX10_init 5 = .ok (.sipush 600, 3) := by decide +kernel
theorem dX10_init_8 : decode cX10_init 8 = .ok (.newarray .byte, 2) := by decide +kernel
theorem dX10_init_10 : decode cX10_init 10 = .ok (.putfield 9, 3) := by decide +kernel
theorem dX10_init_13 : decode cX10_init 13 = .ok (.aload_n 0, 1) := by decide +kernel
theorem dX10_init_14 : decode cX10_init 14 = .ok (.new 13, 3) := by decide +kernel
theorem dX10_init_17 : decode cX10_init 17 = .ok (.dup, 1) := by decide +kernel
theorem dX10_init_18 : decode cX10_init 18 = .ok (.invokespecial 15, 3) := by decide +kernel
theorem dX10_init_21 : decode cX10_init 21 = .ok (.putfield 16, 3) := by decide +kernel
theorem dX10_init_24 : decode cX10_init 24 = .ok (.aload_n 0, 1) := by decide +kernel
theorem dX10_init_25 : decode cX10_init 25 = .ok (.new 13, 3) := by decide +kernel
theorem dX10_init_28 : decode cX10_init 28 = .ok (.dup, 1) := by decide +kernel
theorem dX10_init_29 : decode cX10_init 29 = .ok (.invokespecial 15, 3) := by decide +kernel
theorem dX10_init_32 : decode cX10_init 32 = .ok (.putfield 20, 3) := by decide +kernel
theorem dX10_init_35 : decode cX10_init 35 = .ok (.aload_n 0, 1) := by decide +kernel
theorem dX10_init_36 : decode cX10_init 36 = .ok (.new 23, 3) := by decide +kernel
theorem dX10_init_39 : decode cX10_init 39 = .ok (.dup, 1) := by decide +kernel
theorem dX10_init_40 : decode cX10_init 40 = .ok (.invokespecial 25, 3) := by decide +kernel
theorem dX10_init_43 : decode cX10_init 43 = .ok (.putfield 26, 3) := by decide +kernel
theorem dX10_init_46 : decode cX10_init 46 = .ok (.aload_n 0, 1) := by decide +kernel
theorem dX10_init_47 : decode cX10_init 47 = .ok (.new 30, 3) := by decide +kernel
theorem dX10_init_50 : decode cX10_init 50 = .ok (.dup, 1) := by decide +kernel
theorem dX10_init_51 : decode cX10_init 51 = .ok (.invokespecial 32, 3) := by decide +kernel
theorem dX10_init_54 : decode cX10_init 54 = .ok (.putfield 33, 3) := by decide +kernel
theorem dX10_init_57 : decode cX10_init 57 = .ok (.aload_n 0, 1) := by decide +kernel
theorem dX10_init_58 : decode cX10_init 58 = .ok (.new 30, 3) := by decide +kernel
theorem dX10_init_61 : decode cX10_init 61 = .ok (.dup, 1) := by decide +kernel
theorem dX10_init_62 : decode cX10_init 62 = .ok (.invokespecial 32, 3) := by decide +kernel
theorem dX10_init_65 : decode cX10_init 65 = .ok (.putfield 37, 3) := by decide +kernel
theorem dX10_init_68 : decode cX10_init 68 = .ok (.aload_n 0, 1) := by decide +kernel
theorem dX10_init_69 : decode cX10_init 69 = .ok (.new 30, 3) := by decide +kernel
theorem dX10_init_72 : decode cX10_init 72 = .ok (.dup, 1) := by decide +kernel
theorem dX10_init_73 : decode cX10_init 73 = .ok (.invokespecial 32, 3) := by decide +kernel
theorem dX10_init_76 : decode cX10_init 76 = .ok (.putfield 40, 3) := by decide +kernel
theorem dX10_init_79 : decode cX10_init 79 = .ok (.aload_n 0, 1) := by decide +kernel
theorem dX10_init_80 : decode cX10_init 80 = .ok (.new 43, 3) := by decide +kernel
theorem dX10_init_83 : decode cX10_init 83 = .ok (.dup, 1) := by decide +kernel
theorem dX10_init_84 : decode cX10_init 84 = .ok (.invokespecial 45, 3) := by decide +kernel
theorem dX10_init_87 : decode cX10_init 87 = .ok (.putfield 46, 3) := by decide +kernel
theorem dX10_init_90 : decode cX10_init 90 = .ok (.aload_n 0, 1) := by decide +kernel
theorem dX10_init_91 : decode cX10_init 91 = .ok (.new 50, 3) := by decide +kernel
theorem dX10_init_94 : decode cX10_init 94 = .ok (.dup, 1) := by decide +kernel
theorem dX10_init_95 : decode cX10_init 95 = .ok (.invokespecial 52, 3) := by decide +kernel
theorem dX10_init_98 : decode cX10_init 98 = .ok (.putfield 53, 3) := by decide +kernel
theorem dX10_init_101 : decode cX10_init 101 = .ok (.aload_n 0, 1) := by decide +kernel
theorem dX10_init_102 : decode cX10_init 102 = .ok (.new 57, 3) := by decide +kernel
theorem dX10_init_105 : decode cX10_init 105 = .ok (.dup, 1) := by decide +kernel
theorem dX10_init_106 : decode cX10_init 106 = .ok (.invokespecial 59, 3) := by decide +kernel
theorem dX10_init_109 : decode cX10_init 109 = .ok (.putfield 60, 3) := by decide +kernel
theorem dX10_init_112 : decode cX10_init 112 = .ok (.return_, 1) := by decide +kernel
theorem dX10_feed_0 : decode cX10_feed 0 = .ok (.aload_n 0, 1) := by decide +kernel
theorem dX10_feed_1 : decode cX10_feed 1 = .ok (.getfield 64, 3) := by decide +kernel
theorem dX10_feed_4 : decode cX10_feed 4 = .ok (.bipush 20, 2) := by decide +kernel
theorem dX10_feed_6 : decode cX10_feed 6 = .ok (.iadd, 1) := by decide +kernel
theorem dX10_feed_7 : decode cX10_feed 7 = .ok (.sipush 600, 3) := by decide +kernel
theorem dX10_feed_10 : decode cX10_feed 10 = .ok (.if_icmp .le 9, 3) := by decide +kernel
theorem dX10_feed_13 : decode cX10_feed 13 = .ok (.aload_n 0, 1) := by decide +kernel
theorem dX10_feed_14 : decode cX10_feed 14 = .ok (.iconst 3, 1) := by decide +kernel
theorem dX10_feed_15 : decode cX10_feed 15 = .ok (.invokevirtual 68, 3) := by decide +kernel
theorem dX10_feed_18 : decode cX10_feed 18 = .ok (.ireturn, 1) := by decide +kernel
theorem dX10_feed_19 : decode cX10_feed 19 = .ok (.aload_n 0, 1) := by decide +kernel
theorem dX10_feed_20 : decode cX10_feed 20 = .ok (.iload_n 1, 1) := by decide +kernel
theorem dX10_feed_21 : decode cX10_feed 21 = .ok (.invokevirtual 72, 3) := by decide +kernel
theorem dX10_feed_24 : decode cX10_feed 24 = .ok (.aload_n 0, 1) := by decide +kernel
theorem dX10_feed_25 : decode cX10_feed 25 = .ok (.iload_n 2, 1) := by decide +kernel
theorem dX10_feed_26 : decode cX10_feed 26 = .ok (.invokevirtual 72, 3) := by decide +kernel
theorem dX10_feed_29 : decode cX10_feed 29 = .ok (.aload_n 0, 1) := by decide +kernel
theorem dX10_feed_30 : decode cX10_feed 30 = .ok (.iload_n 3, 1) := by decide +kernel
theorem dX10_feed_31 : decode cX10_feed 31 = .ok (.invokevirtual 72, 3) := by decide +kernel
theorem dX10_feed_34 : decode cX10_feed 34 = .ok (.aload_n 0, 1) := by decide +kernel
theorem dX10_feed_35 : decode cX10_feed 35 = .ok (.iload 4, 2) := by decide +kernel
theorem dX10_feed_37 : decode cX10_feed 37 = .ok (.invokevirtual 72, 3) := by decide +kernel
theorem dX10_feed_40 : decode cX10_feed 40 = .ok (.aload_n 0, 1) := by decide +kernel
theorem dX10_feed_41 : decode cX10_feed 41 = .ok (.iload 5, 2) := by decide +kernel
theorem dX10_feed_43 : decode cX10_feed 43 = .ok (.invokevirtual 72, 3) := by decide +kernel
theorem dX10_feed_46 : decode cX10_feed 46 = .ok (.aload_n 0, 1) := by decide +kernel
theorem dX10_feed_47 : decode cX10_feed 47 = .ok (.aload_n 0, 1) := by decide +kernel
theorem dX10_feed_48 : decode cX10_feed 48 = .ok (.getfield 64, 3) := by decide +kernel
theorem dX10_feed_51 : decode cX10_feed 51 = .ok (.invokevirtual 76, 3) := by decide +kernel
theorem dX10_feed_54 : decode cX10_feed 54 = .ok (.ireturn, 1) := by decide +kernel
theorem dX10_program_0 : decode cX10_program 0 = .ok (.iload_n 1, 1) := by decide +kernel
theorem dX10_program_1 : decode cX10_program 1 = .ok (.ifCond .lt 11, 3) := by decide +kernel
theorem dX10_program_4 : decode cX10_program 4 = .ok (.iload_n 1, 1) := by decide +kernel
theorem dX10_program_5 : decode cX10_program 5 = .ok (.aload_n 0, 1) := by decide +kernel
theorem dX10_program_6 : decode cX10_program 6 = .ok (.getfield 64, 3) := by decide +kernel
theorem dX10_program_9 : decode cX10_program 9 = .ok (.if_icmp .le 9, 3) := by decide +kernel
theorem dX10_program_12 : decode cX10_program 12 = .ok (.aload_n 0, 1) := by decide +kernel
theorem dX10_program_13 : decode cX10_program 13 = .ok (.iconst 2, 1) := by decide +kernel
theorem dX10_program_14 : decode cX10_program 14 = .ok (.invokevirtual 68, 3) := by decide +kernel
theorem dX10_program_17 : decode cX10_program 17 = .ok (.ireturn, 1) := by decide +kernel
theorem dX10_program_18 : decode cX10_program 18 = .ok (.aload_n 0, 1) := by decide +kernel
theorem dX10_program_19 : decode cX10_program 19 = .ok (.iconst 0, 1) := by decide +kernel
theorem dX10_program_20 : decode cX10_program 20 = .ok (.putfield 64, 3) := by decide +kernel
theorem dX10_program_23 : decode cX10_program 23 = .ok (.aload_n 0, 1) := by decide +kernel
theorem dX10_program_24 : decode cX10_program 24 = .ok (.aload_n 0, 1) := by decide +kernel
theorem dX10_program_25 : decode cX10_program 25 = .ok (.getfield 26, 3) := by decide +kernel
theorem dX10_program_28 : decode cX10_program 28 = .ok (.aload_n 0, 1) := by decide +kernel
theorem dX10_program_29 : decode cX10_program 29 = .ok (.getfield 9, 3) := by decide +kernel
theorem dX10_program_32 : decode cX10_program 32 = .ok (.iload_n 1, 1) := by decide +kernel
theorem dX10_program_33 : decode cX10_program 33 = .ok (.aload_n 0, 1) := by decide +kernel
theorem dX10_program_34 : decode cX10_program 34 = .ok (.getfield 20, 3) := by decide +kernel
theorem dX10_program_37 : decode cX10_program 37 = .ok (.invokevirtual 79, 3) := by decide +kernel
theorem dX10_program_40 : decode cX10_program 40 = .ok (.putfield 83, 3) := by decide +kernel
theorem dX10_program_43 : decode cX10_program 43 = .ok (.aload_n 0, 1) := by decide +kernel
theorem dX10_program_44 : decode cX10_program 44 = .ok (.getfield 83, 3) := by decide +kernel
theorem dX10_program_47 : decode cX10_program 47 = .ok (.ifCond .eq 9, 3) := by decide +kernel
theorem dX10_program_50 : decode cX10_program 50 = .ok (.aload_n 0, 1) := by decide +kernel
theorem dX10_program_51 : decode cX10_program 51 = .ok (.iconst 4, 1) := by decide +kernel
theorem dX10_program_52 : decode cX10_program 52 = .ok (.invokevirtual 68, 3) := by decide +kernel
theorem dX10_program_55 : decode cX10_program 55 = .ok (.ireturn, 1) := by decide +kernel
theorem dX10_program_56 : decode cX10_program 56 = .ok (.aload_n 0, 1) := by decide +kernel
theorem dX10_program_57 : decode cX10_program 57 = .ok (.invokevirtual 86, 3) := by decide +kernel
theorem dX10_program_60 : decode cX10_program 60 = .ok (.aload_n 0, 1) := by decide +kernel
theorem dX10_program_61 : decode cX10_program 61 = .ok (.aload_n 0, 1) := by decide +kernel
theorem dX10_program_62 : decode cX10_program 62 = .ok (.getfield 16, 3) := by decide +kernel
theorem dX10_program_65 : decode cX10_program 65 = .ok (.getfield 89, 3) := by decide +kernel
theorem dX10_program_68 : decode cX10_program 68 = .ok (.invokevirtual 76, 3) := by decide +kernel
theorem dX10_program_71 : decode cX10_program 71 = .ok (.ireturn, 1) := by decide +kernel
theorem dX10_fault_0 : decode cX10_fault 0 = .ok (.aload_n 0, 1) := by decide +kernel
theorem dX10_fault_1 : decode cX10_fault 1 = .ok (.getfield 83, 3) := by decide +kernel
theorem dX10_fault_4 : decode cX10_fault 4 = .ok (.ireturn, 1) := by decide +kernel
theorem dX10_where_0 : decode cX10_where 0 = .ok (.aload_n 0, 1) := by decide +kernel
theorem dX10_where_1 : decode cX10_where 1 = .ok (.getfield 92, 3) := by decide +kernel
theorem dX10_where_4 : decode cX10_where 4 = .ok (.iconst 4, 1) := by decide +kernel
theorem dX10_where_5 : decode cX10_where 5 = .ok (.if_icmp .ne 13, 3) := by decide +kernel
theorem dX10_where_8 : decode cX10_where 8 = .ok (.aload_n 0, 1) := by decide +kernel
theorem dX10_where_9 : decode cX10_where 9 = .ok (.getfield 26, 3) := by decide +kernel
theorem dX10_where_12 : decode cX10_where 12 = .ok (.getfield 95, 3) := by decide +kernel
theorem dX10_where_15 : decode cX10_where 15 = .ok (.goto 4, 3) := by decide +kernel
theorem dX10_where_18 : decode cX10_where 18 = .ok (.iconst (-1), 1) := by decide +kernel
theorem dX10_where_19 : decode cX10_where 19 = .ok (.ireturn, 1) := by decide +kernel
theorem dX10_function_0 : decode cX10_function 0 = .ok (.aload_n 0, 1) := by decide +kernel
theorem dX10_function_1 : decode cX10_function 1 = .ok (.getfield 16, 3) := by decide +kernel
theorem dX10_function_4 : decode cX10_function 4 = .ok (.iload_n 1, 1) := by decide +kernel
theorem dX10_function_5 : decode cX10_function 5 = .ok (.invokevirtual 98, 3) := by decide +kernel
theorem dX10_function_8 : decode cX10_function 8 = .ok (.ifCond .ne 5, 3) := by decide +kernel
theorem dX10_function_11 : decode cX10_function 11 = .ok (.iconst (-1), 1) := by decide +kernel
theorem dX10_function_12 : decode cX10_function 12 = .ok (.ireturn, 1) := by decide +kernel
theorem dX10_function_13 : decode cX10_function 13 = .ok (.iload_n 2, 1) := by decide +kernel
theorem dX10_function_14 : decode cX10_function 14 = .ok (.tableswitch 82 0 3 #[30, 43, 56, 69], 30) := by decide +kernel
theorem dX10_function_44 : decode cX10_function 44 = .ok (.aload_n 0, 1) := by decide +kernel
theorem dX10_function_45 : decode cX10_function 45 = .ok (.getfield 16, 3) := by decide +kernel
theorem dX10_function_48 : decode cX10_function 48 = .ok (.getfield 102, 3) := by decide +kernel
theorem dX10_function_51 : decode cX10_function 51 = .ok (.iload_n 1, 1) := by decide +kernel
theorem dX10_function_52 : decode cX10_function 52 = .ok (.aaload, 1) := by decide +kernel
theorem dX10_function_53 : decode cX10_function 53 = .ok (.getfield 106, 3) := by decide +kernel
theorem dX10_function_56 : decode cX10_function 56 = .ok (.ireturn, 1) := by decide +kernel
theorem dX10_function_57 : decode cX10_function 57 = .ok (.aload_n 0, 1) := by decide +kernel
theorem dX10_function_58 : decode cX10_function 58 = .ok (.getfield 16, 3) := by decide +kernel
theorem dX10_function_61 : decode cX10_function 61 = .ok (.getfield 102, 3) := by decide +kernel
theorem dX10_function_64 : decode cX10_function 64 = .ok (.iload_n 1, 1) := by decide +kernel
theorem dX10_function_65 : decode cX10_function 65 = .ok (.aaload, 1) := by decide +kernel
theorem dX10_function_66 : decode cX10_function 66 = .ok (.getfield 111, 3) := by decide +kernel
theorem dX10_function_69 : decode cX10_function 69 = .ok (.ireturn, 1) := by decide +kernel
theorem dX10_function_70 : decode cX10_function 70 = .ok (.aload_n 0, 1) := by decide +kernel
theorem dX10_function_71 : decode cX10_function 71 = .ok (.getfield 16, 3) := by decide +kernel
theorem dX10_function_74 : decode cX10_function 74 = .ok (.getfield 102, 3) := by decide +kernel
theorem dX10_function_77 : decode cX10_function 77 = .ok (.iload_n 1, 1) := by decide +kernel
theorem dX10_function_78 : decode cX10_function 78 = .ok (.aaload, 1) := by decide +kernel
theorem dX10_function_79 : decode cX10_function 79 = .ok (.getfield 114, 3) := by decide +kernel
theorem dX10_function_82 : decode cX10_function 82 = .ok (.ireturn, 1) := by decide +kernel
theorem dX10_function_83 : decode cX10_function 83 = .ok (.aload_n 0, 1) := by decide +kernel
theorem dX10_function_84 : decode cX10_function 84 = .ok (.getfield 16, 3) := by decide +kernel
theorem dX10_function_87 : decode cX10_function 87 = .ok (.getfield 102, 3) := by decide +kernel
theorem dX10_function_90 : decode cX10_function 90 = .ok (.iload_n 1, 1) := by decide +kernel
theorem dX10_function_91 : decode cX10_function 91 = .ok (.aaload, 1) := by decide +kernel
theorem dX10_function_92 : decode cX10_function 92 = .ok (.getfield 117, 3) := by decide +kernel
theorem dX10_function_95 : decode cX10_function 95 = .ok (.ireturn, 1) := by decide +kernel
theorem dX10_function_96 : decode cX10_function 96 = .ok (.iconst (-1), 1) := by decide +kernel
theorem dX10_function_97 : decode cX10_function 97 = .ok (.ireturn, 1) := by decide +kernel
theorem dX10_name_0 : decode cX10_name 0 = .ok (.aload_n 0, 1) := by decide +kernel
theorem dX10_name_1 : decode cX10_name 1 = .ok (.getfield 16, 3) := by decide +kernel
theorem dX10_name_4 : decode cX10_name 4 = .ok (.iload_n 1, 1) := by decide +kernel
theorem dX10_name_5 : decode cX10_name 5 = .ok (.invokevirtual 98, 3) := by decide +kernel
theorem dX10_name_8 : decode cX10_name 8 = .ok (.ifCond .ne 13, 3) := by decide +kernel
theorem dX10_name_11 : decode cX10_name 11 = .ok (.new 120, 3) := by decide +kernel
theorem dX10_name_14 : decode cX10_name 14 = .ok (.dup, 1) := by decide +kernel
theorem dX10_name_15 : decode cX10_name 15 = .ok (.ldc 122, 2) := by decide +kernel
theorem dX10_name_17 : decode cX10_name 17 = .ok (.invokespecial 124, 3) := by decide +kernel
theorem dX10_name_20 : decode cX10_name 20 = .ok (.athrow, 1) := by decide +kernel
theorem dX10_name_21 : decode cX10_name 21 = .ok (.aload_n 0, 1) := by decide +kernel
theorem dX10_name_22 : decode cX10_name 22 = .ok (.getfield 16, 3) := by decide +kernel
theorem dX10_name_25 : decode cX10_name 25 = .ok (.getfield 127, 3) := by decide +kernel
theorem dX10_name_28 : decode cX10_name 28 = .ok (.aload_n 0, 1) := by decide +kernel
theorem dX10_name_29 : decode cX10_name 29 = .ok (.getfield 16, 3) := by decide +kernel
theorem dX10_name_32 : decode cX10_name 32 = .ok (.getfield 102, 3) := by decide +kernel
theorem dX10_name_35 : decode cX10_name 35 = .ok (.iload_n 1, 1) := by decide +kernel
theorem dX10_name_36 : decode cX10_name 36 = .ok (.aaload, 1) := by decide +kernel
theorem dX10_name_37 : decode cX10_name 37 = .ok (.getfield 131, 3) := by decide +kernel
theorem dX10_name_40 : decode cX10_name 40 = .ok (.iload_n 2, 1) := by decide +kernel
theorem dX10_name_41 : decode cX10_name 41 = .ok (.invokevirtual 134, 3) := by decide +kernel
theorem dX10_name_44 : decode cX10_name 44 = .ok (.istore_n 3, 1) := by decide +kernel
theorem dX10_name_45 : decode cX10_name 45 = .ok (.iload_n 3, 1) := by decide +kernel
theorem dX10_name_46 : decode cX10_name 46 = .ok (.iconst (-1), 1) := by decide +kernel
theorem dX10_name_47 : decode cX10_name 47 = .ok (.if_icmp .ne 13, 3) := by decide +kernel
theorem dX10_name_50 : decode cX10_name 50 = .ok (.new 120, 3) := by decide +kernel
theorem dX10_name_53 : decode cX10_name 53 = .ok (.dup, 1) := by decide +kernel
theorem dX10_name_54 : decode cX10_name 54 = .ok (.ldc 140, 2) := by decide +kernel
theorem dX10_name_56 : decode cX10_name 56 = .ok (.invokespecial 124, 3) := by decide +kernel
theorem dX10_name_59 : decode cX10_name 59 = .ok (.athrow, 1) := by decide +kernel
theorem dX10_name_60 : decode cX10_name 60 = .ok (.iload_n 3, 1) := by decide +kernel
theorem dX10_name_61 : decode cX10_name 61 = .ok (.ireturn, 1) := by decide +kernel
theorem dX10_line_0 : decode cX10_line 0 = .ok (.aload_n 0, 1) := by decide +kernel
theorem dX10_line_1 : decode cX10_line 1 = .ok (.getfield 16, 3) := by decide +kernel
theorem dX10_line_4 : decode cX10_line 4 = .ok (.iload_n 1, 1) := by decide +kernel
theorem dX10_line_5 : decode cX10_line 5 = .ok (.invokevirtual 142, 3) := by decide +kernel
theorem dX10_line_8 : decode cX10_line 8 = .ok (.ifCond .ne 5, 3) := by decide +kernel
theorem dX10_line_11 : decode cX10_line 11 = .ok (.iconst (-1), 1) := by decide +kernel
theorem dX10_line_12 : decode cX10_line 12 = .ok (.ireturn, 1) := by decide +kernel
theorem dX10_line_13 : decode cX10_line 13 = .ok (.iload_n 2, 1) := by decide +kernel
theorem dX10_line_14 : decode cX10_line 14 = .ok (.tableswitch 82 0 3 #[30, 43, 56, 69], 30) := by decide +kernel
theorem dX10_line_44 : decode cX10_line 44 = .ok (.aload_n 0, 1) := by decide +kernel
theorem dX10_line_45 : decode cX10_line 45 = .ok (.getfield 16, 3) := by decide +kernel
theorem dX10_line_48 : decode cX10_line 48 = .ok (.getfield 145, 3) := by decide +kernel
theorem dX10_line_51 : decode cX10_line 51 = .ok (.iload_n 1, 1) := by decide +kernel
theorem dX10_line_52 : decode cX10_line 52 = .ok (.aaload, 1) := by decide +kernel
theorem dX10_line_53 : decode cX10_line 53 = .ok (.getfield 149, 3) := by decide +kernel
theorem dX10_line_56 : decode cX10_line 56 = .ok (.ireturn, 1) := by decide +kernel
theorem dX10_line_57 : decode cX10_line 57 = .ok (.aload_n 0, 1) := by decide +kernel
theorem dX10_line_58 : decode cX10_line 58 = .ok (.getfield 16, 3) := by decide +kernel
theorem dX10_line_61 : decode cX10_line 61 = .ok (.getfield 145, 3) := by decide +kernel
theorem dX10_line_64 : decode cX10_line 64 = .ok (.iload_n 1, 1) := by decide +kernel
theorem dX10_line_65 : decode cX10_line 65 = .ok (.aaload, 1) := by decide +kernel
theorem dX10_line_66 : decode cX10_line 66 = .ok (.getfield 154, 3) := by decide +kernel
theorem dX10_line_69 : decode cX10_line 69 = .ok (.ireturn, 1) := by decide +kernel
theorem dX10_line_70 : decode cX10_line 70 = .ok (.aload_n 0, 1) := by decide +kernel
theorem dX10_line_71 : decode cX10_line 71 = .ok (.getfield 16, 3) := by decide +kernel
theorem dX10_line_74 : decode cX10_line 74 = .ok (.getfield 145, 3) := by decide +kernel
theorem dX10_line_77 : decode cX10_line 77 = .ok (.iload_n 1, 1) := by decide +kernel
theorem dX10_line_78 : decode cX10_line 78 = .ok (.aaload, 1) := by decide +kernel
theorem dX10_line_79 : decode cX10_line 79 = .ok (.getfield 157, 3) := by decide +kernel
theorem dX10_line_82 : decode cX10_line 82 = .ok (.ireturn, 1) := by decide +kernel
theorem dX10_line_83 : decode cX10_line 83 = .ok (.aload_n 0, 1) := by decide +kernel
theorem dX10_line_84 : decode cX10_line 84 = .ok (.getfield 16, 3) := by decide +kernel
theorem dX10_line_87 : decode cX10_line 87 = .ok (.getfield 145, 3) := by decide +kernel
theorem dX10_line_90 : decode cX10_line 90 = .ok (.iload_n 1, 1) := by decide +kernel
theorem dX10_line_91 : decode cX10_line 91 = .ok (.aaload, 1) := by decide +kernel
theorem dX10_line_92 : decode cX10_line 92 = .ok (.getfield 160, 3) := by decide +kernel
theorem dX10_line_95 : decode cX10_line 95 = .ok (.ireturn, 1) := by decide +kernel
theorem dX10_line_96 : decode cX10_line 96 = .ok (.iconst (-1), 1) := by decide +kernel
theorem dX10_line_97 : decode cX10_line 97 = .ok (.ireturn, 1) := by decide +kernel
theorem dX10_run_0 : decode cX10_run 0 = .ok (.aload_n 0, 1) := by decide +kernel
theorem dX10_run_1 : decode cX10_run 1 = .ok (.getfield 16, 3) := by decide +kernel
theorem dX10_run_4 : decode cX10_run 4 = .ok (.iload_n 1, 1) := by decide +kernel
theorem dX10_run_5 : decode cX10_run 5 = .ok (.invokevirtual 98, 3) := by decide +kernel
theorem dX10_run_8 : decode cX10_run 8 = .ok (.ifCond .ne 9, 3) := by decide +kernel
theorem dX10_run_11 : decode cX10_run 11 = .ok (.aload_n 0, 1) := by decide +kernel
theorem dX10_run_12 : decode cX10_run 12 = .ok (.iconst 1, 1) := by decide +kernel
theorem dX10_run_13 : decode cX10_run 13 = .ok (.invokevirtual 68, 3) := by decide +kernel
theorem dX10_run_16 : decode cX10_run 16 = .ok (.ireturn, 1) := by decide +kernel
theorem dX10_run_17 : decode cX10_run 17 = .ok (.iload 5, 2) := by decide +kernel
theorem dX10_run_19 : decode cX10_run 19 = .ok (.iconst 1, 1) := by decide +kernel
theorem dX10_run_20 : decode cX10_run 20 = .ok (.if_icmp .lt 11, 3) := by decide +kernel
theorem dX10_run_23 : decode cX10_run 23 = .ok (.iload 5, 2) := by decide +kernel
theorem dX10_run_25 : decode cX10_run 25 = .ok (.sipush 2000, 3) := by decide +kernel
theorem dX10_run_28 : decode cX10_run 28 = .ok (.if_icmp .le 9, 3) := by decide +kernel
theorem dX10_run_31 : decode cX10_run 31 = .ok (.aload_n 0, 1) := by decide +kernel
theorem dX10_run_32 : decode cX10_run 32 = .ok (.iconst 2, 1) := by decide +kernel
theorem dX10_run_33 : decode cX10_run 33 = .ok (.invokevirtual 68, 3) := by decide +kernel
theorem dX10_run_36 : decode cX10_run 36 = .ok (.ireturn, 1) := by decide +kernel
theorem dX10_run_37 : decode cX10_run 37 = .ok (.aload_n 0, 1) := by decide +kernel
theorem dX10_run_38 : decode cX10_run 38 = .ok (.getfield 33, 3) := by decide +kernel
theorem dX10_run_41 : decode cX10_run 41 = .ok (.aload_n 0, 1) := by decide +kernel
theorem dX10_run_42 : decode cX10_run 42 = .ok (.getfield 16, 3) := by decide +kernel
theorem dX10_run_45 : decode cX10_run 45 = .ok (.iload 5, 2) := by decide +kernel
theorem dX10_run_47 : decode cX10_run 47 = .ok (.iconst (-1), 1) := by decide +kernel
theorem dX10_run_48 : decode cX10_run 48 = .ok (.invokevirtual 163, 3) := by decide +kernel
theorem dX10_run_51 : decode cX10_run 51 = .ok (.aload_n 0, 1) := by decide +kernel
theorem dX10_run_52 : decode cX10_run 52 = .ok (.getfield 33, 3) := by decide +kernel
theorem dX10_run_55 : decode cX10_run 55 = .ok (.iload_n 1, 1) := by decide +kernel
theorem dX10_run_56 : decode cX10_run 56 = .ok (.iload_n 2, 1) := by decide +kernel
theorem dX10_run_57 : decode cX10_run 57 = .ok (.iload_n 3, 1) := by decide +kernel
theorem dX10_run_58 : decode cX10_run 58 = .ok (.iload 4, 2) := by decide +kernel
theorem dX10_run_60 : decode cX10_run 60 = .ok (.invokevirtual 167, 3) := by decide +kernel
theorem dX10_run_63 : decode cX10_run 63 = .ok (.aload_n 0, 1) := by decide +kernel
theorem dX10_run_64 : decode cX10_run 64 = .ok (.iconst 1, 1) := by decide +kernel
theorem dX10_run_65 : decode cX10_run 65 = .ok (.putfield 171, 3) := by decide +kernel
theorem dX10_run_68 : decode cX10_run 68 = .ok (.aload_n 0, 1) := by decide +kernel
theorem dX10_run_69 : decode cX10_run 69 = .ok (.aload_n 0, 1) := by decide +kernel
theorem dX10_run_70 : decode cX10_run 70 = .ok (.getfield 33, 3) := by decide +kernel
theorem dX10_run_73 : decode cX10_run 73 = .ok (.getfield 175, 3) := by decide +kernel
theorem dX10_run_76 : decode cX10_run 76 = .ok (.invokevirtual 76, 3) := by decide +kernel
theorem dX10_run_79 : decode cX10_run 79 = .ok (.ireturn, 1) := by decide +kernel
theorem dX10_ran_0 : decode cX10_ran 0 = .ok (.aload_n 0, 1) := by decide +kernel
theorem dX10_ran_1 : decode cX10_ran 1 = .ok (.getfield 171, 3) := by decide +kernel
theorem dX10_ran_4 : decode cX10_ran 4 = .ok (.ifCond .ne 9, 3) := by decide +kernel
theorem dX10_ran_7 : decode cX10_ran 7 = .ok (.aload_n 0, 1) := by decide +kernel
theorem dX10_ran_8 : decode cX10_ran 8 = .ok (.iconst 5, 1) := by decide +kernel
theorem dX10_ran_9 : decode cX10_ran 9 = .ok (.invokevirtual 68, 3) := by decide +kernel
theorem dX10_ran_12 : decode cX10_ran 12 = .ok (.ireturn, 1) := by decide +kernel
theorem dX10_ran_13 : decode cX10_ran 13 = .ok (.iload_n 1, 1) := by decide +kernel
theorem dX10_ran_14 : decode cX10_ran 14 = .ok (.tableswitch 113 0 5 #[38, 50, 62, 74, 86, 101], 38) := by decide +kernel
theorem dX10_ran_52 : decode cX10_ran 52 = .ok (.aload_n 0, 1) := by decide +kernel
theorem dX10_ran_53 : decode cX10_ran 53 = .ok (.aload_n 0, 1) := by decide +kernel
theorem dX10_ran_54 : decode cX10_ran 54 = .ok (.getfield 33, 3) := by decide +kernel
theorem dX10_ran_57 : decode cX10_ran 57 = .ok (.getfield 178, 3) := by decide +kernel
theorem dX10_ran_60 : decode cX10_ran 60 = .ok (.invokevirtual 76, 3) := by decide +kernel
theorem dX10_ran_63 : decode cX10_ran 63 = .ok (.ireturn, 1) := by decide +kernel
theorem dX10_ran_64 : decode cX10_ran 64 = .ok (.aload_n 0, 1) := by decide +kernel
theorem dX10_ran_65 : decode cX10_ran 65 = .ok (.aload_n 0, 1) := by decide +kernel
theorem dX10_ran_66 : decode cX10_ran 66 = .ok (.getfield 33, 3) := by decide +kernel
theorem dX10_ran_69 : decode cX10_ran 69 = .ok (.getfield 181, 3) := by decide +kernel
theorem dX10_ran_72 : decode cX10_ran 72 = .ok (.invokevirtual 76, 3) := by decide +kernel
theorem dX10_ran_75 : decode cX10_ran 75 = .ok (.ireturn, 1) := by decide +kernel
theorem dX10_ran_76 : decode cX10_ran 76 = .ok (.aload_n 0, 1) := by decide +kernel
theorem dX10_ran_77 : decode cX10_ran 77 = .ok (.aload_n 0, 1) := by decide +kernel
theorem dX10_ran_78 : decode cX10_ran 78 = .ok (.getfield 33, 3) := by decide +kernel
theorem dX10_ran_81 : decode cX10_ran 81 = .ok (.getfield 184, 3) := by decide +kernel
theorem dX10_ran_84 : decode cX10_ran 84 = .ok (.invokevirtual 76, 3) := by decide +kernel
theorem dX10_ran_87 : decode cX10_ran 87 = .ok (.ireturn, 1) := by decide +kernel
theorem dX10_ran_88 : decode cX10_ran 88 = .ok (.aload_n 0, 1) := by decide +kernel
theorem dX10_ran_89 : decode cX10_ran 89 = .ok (.aload_n 0, 1) := by decide +kernel
theorem dX10_ran_90 : decode cX10_ran 90 = .ok (.getfield 33, 3) := by decide +kernel
theorem dX10_ran_93 : decode cX10_ran 93 = .ok (.getfield 187, 3) := by decide +kernel
theorem dX10_ran_96 : decode cX10_ran 96 = .ok (.invokevirtual 76, 3) := by decide +kernel
theorem dX10_ran_99 : decode cX10_ran 99 = .ok (.ireturn, 1) := by decide +kernel
theorem dX10_ran_100 : decode cX10_ran 100 = .ok (.aload_n 0, 1) := by decide +kernel
theorem dX10_ran_101 : decode cX10_ran 101 = .ok (.aload_n 0, 1) := by decide +kernel
theorem dX10_ran_102 : decode cX10_ran 102 = .ok (.getfield 33, 3) := by decide +kernel
theorem dX10_ran_105 : decode cX10_ran 105 = .ok (.getfield 190, 3) := by decide +kernel
theorem dX10_ran_108 : decode cX10_ran 108 = .ok (.invokestatic 194, 3) := by decide +kernel
theorem dX10_ran_111 : decode cX10_ran 111 = .ok (.invokevirtual 76, 3) := by decide +kernel
theorem dX10_ran_114 : decode cX10_ran 114 = .ok (.ireturn, 1) := by decide +kernel
theorem dX10_ran_115 : decode cX10_ran 115 = .ok (.aload_n 0, 1) := by decide +kernel
theorem dX10_ran_116 : decode cX10_ran 116 = .ok (.aload_n 0, 1) := by decide +kernel
theorem dX10_ran_117 : decode cX10_ran 117 = .ok (.getfield 33, 3) := by decide +kernel
theorem dX10_ran_120 : decode cX10_ran 120 = .ok (.getfield 200, 3) := by decide +kernel
theorem dX10_ran_123 : decode cX10_ran 123 = .ok (.invokevirtual 76, 3) := by decide +kernel
theorem dX10_ran_126 : decode cX10_ran 126 = .ok (.ireturn, 1) := by decide +kernel
theorem dX10_ran_127 : decode cX10_ran 127 = .ok (.aload_n 0, 1) := by decide +kernel
theorem dX10_ran_128 : decode cX10_ran 128 = .ok (.iconst 2, 1) := by decide +kernel
theorem dX10_ran_129 : decode cX10_ran 129 = .ok (.invokevirtual 68, 3) := by decide +kernel
theorem dX10_ran_132 : decode cX10_ran 132 = .ok (.ireturn, 1) := by decide +kernel
theorem dX10_said_0 : decode cX10_said 0 = .ok (.aload_n 0, 1) := by decide +kernel
theorem dX10_said_1 : decode cX10_said 1 = .ok (.getfield 171, 3) := by decide +kernel
theorem dX10_said_4 : decode cX10_said 4 = .ok (.ifCond .eq 14, 3) := by decide +kernel
theorem dX10_said_7 : decode cX10_said 7 = .ok (.aload_n 0, 1) := by decide +kernel
theorem dX10_said_8 : decode cX10_said 8 = .ok (.getfield 33, 3) := by decide +kernel
theorem dX10_said_11 : decode cX10_said 11 = .ok (.iload_n 1, 1) := by decide +kernel
theorem dX10_said_12 : decode cX10_said 12 = .ok (.invokevirtual 203, 3) := by decide +kernel
theorem dX10_said_15 : decode cX10_said 15 = .ok (.ifCond .ne 13, 3) := by decide +kernel
theorem dX10_said_18 : decode cX10_said 18 = .ok (.new 120, 3) := by decide +kernel
theorem dX10_said_21 : decode cX10_said 21 = .ok (.dup, 1) := by decide +kernel
theorem dX10_said_22 : decode cX10_said 22 = .ok (.ldc 206, 2) := by decide +kernel
theorem dX10_said_24 : decode cX10_said 24 = .ok (.invokespecial 124, 3) := by decide +kernel
theorem dX10_said_27 : decode cX10_said 27 = .ok (.athrow, 1) := by decide +kernel
theorem dX10_said_28 : decode cX10_said 28 = .ok (.aload_n 0, 1) := by decide +kernel
theorem dX10_said_29 : decode cX10_said 29 = .ok (.getfield 33, 3) := by decide +kernel
theorem dX10_said_32 : decode cX10_said 32 = .ok (.iload_n 1, 1) := by decide +kernel
theorem dX10_said_33 : decode cX10_said 33 = .ok (.invokevirtual 208, 3) := by decide +kernel
theorem dX10_said_36 : decode cX10_said 36 = .ok (.ireturn, 1) := by decide +kernel
theorem dX10_trace_0 : decode cX10_trace 0 = .ok (.aload_n 0, 1) := by decide +kernel
theorem dX10_trace_1 : decode cX10_trace 1 = .ok (.getfield 171, 3) := by decide +kernel
theorem dX10_trace_4 : decode cX10_trace 4 = .ok (.ifCond .eq 15, 3) := by decide +kernel
theorem dX10_trace_7 : decode cX10_trace 7 = .ok (.aload_n 0, 1) := by decide +kernel
theorem dX10_trace_8 : decode cX10_trace 8 = .ok (.getfield 33, 3) := by decide +kernel
theorem dX10_trace_11 : decode cX10_trace 11 = .ok (.iload_n 1, 1) := by decide +kernel
theorem dX10_trace_12 : decode cX10_trace 12 = .ok (.iload_n 2, 1) := by decide +kernel
theorem dX10_trace_13 : decode cX10_trace 13 = .ok (.invokevirtual 211, 3) := by decide +kernel
theorem dX10_trace_16 : decode cX10_trace 16 = .ok (.ifCond .ne 13, 3) := by decide +kernel
theorem dX10_trace_19 : decode cX10_trace 19 = .ok (.new 120, 3) := by decide +kernel
theorem dX10_trace_22 : decode cX10_trace 22 = .ok (.dup, 1) := by decide +kernel
theorem dX10_trace_23 : decode cX10_trace 23 = .ok (.ldc 215, 2) := by decide +kernel
theorem dX10_trace_25 : decode cX10_trace 25 = .ok (.invokespecial 124, 3) := by decide +kernel
theorem dX10_trace_28 : decode cX10_trace 28 = .ok (.athrow, 1) := by decide +kernel
theorem dX10_trace_29 : decode cX10_trace 29 = .ok (.aload_n 0, 1) := by decide +kernel
theorem dX10_trace_30 : decode cX10_trace 30 = .ok (.getfield 33, 3) := by decide +kernel
theorem dX10_trace_33 : decode cX10_trace 33 = .ok (.iload_n 1, 1) := by decide +kernel
theorem dX10_trace_34 : decode cX10_trace 34 = .ok (.iload_n 2, 1) := by decide +kernel
theorem dX10_trace_35 : decode cX10_trace 35 = .ok (.invokevirtual 217, 3) := by decide +kernel
theorem dX10_trace_38 : decode cX10_trace 38 = .ok (.ireturn, 1) := by decide +kernel
theorem dX10_covered_0 : decode cX10_covered 0 = .ok (.aload_n 0, 1) := by decide +kernel
theorem dX10_covered_1 : decode cX10_covered 1 = .ok (.getfield 171, 3) := by decide +kernel
theorem dX10_covered_4 : decode cX10_covered 4 = .ok (.ifCond .eq 14, 3) := by decide +kernel
theorem dX10_covered_7 : decode cX10_covered 7 = .ok (.aload_n 0, 1) := by decide +kernel
theorem dX10_covered_8 : decode cX10_covered 8 = .ok (.getfield 16, 3) := by decide +kernel
theorem dX10_covered_11 : decode cX10_covered 11 = .ok (.iload_n 1, 1) := by decide +kernel
theorem dX10_covered_12 : decode cX10_covered 12 = .ok (.invokevirtual 142, 3) := by decide +kernel
theorem dX10_covered_15 : decode cX10_covered 15 = .ok (.ifCond .ne 5, 3) := by decide +kernel
theorem dX10_covered_18 : decode cX10_covered 18 = .ok (.iconst (-1), 1) := by decide +kernel
theorem dX10_covered_19 : decode cX10_covered 19 = .ok (.ireturn, 1) := by decide +kernel
theorem dX10_covered_20 : decode cX10_covered 20 = .ok (.aload_n 0, 1) := by decide +kernel
theorem dX10_covered_21 : decode cX10_covered 21 = .ok (.getfield 33, 3) := by decide +kernel
theorem dX10_covered_24 : decode cX10_covered 24 = .ok (.getfield 190, 3) := by decide +kernel
theorem dX10_covered_27 : decode cX10_covered 27 = .ok (.iload_n 1, 1) := by decide +kernel
theorem dX10_covered_28 : decode cX10_covered 28 = .ok (.lshr, 1) := by decide +kernel
theorem dX10_covered_29 : decode cX10_covered 29 = .ok (.lconst 1, 1) := by decide +kernel
theorem dX10_covered_30 : decode cX10_covered 30 = .ok (.land, 1) := by decide +kernel
theorem dX10_covered_31 : decode cX10_covered 31 = .ok (.lconst 0, 1) := by decide +kernel
theorem dX10_covered_32 : decode cX10_covered 32 = .ok (.lcmp, 1) := by decide +kernel
theorem dX10_covered_33 : decode cX10_covered 33 = .ok (.ifCond .eq 7, 3) := by decide +kernel
theorem dX10_covered_36 : decode cX10_covered 36 = .ok (.iconst 1, 1) := by decide +kernel
theorem dX10_covered_37 : decode cX10_covered 37 = .ok (.goto 4, 3) := by decide +kernel
theorem dX10_covered_40 : decode cX10_covered 40 = .ok (.iconst 0, 1) := by decide +kernel
theorem dX10_covered_41 : decode cX10_covered 41 = .ok (.ireturn, 1) := by decide +kernel
theorem dX10_place_0 : decode cX10_place 0 = .ok (.aload_n 0, 1) := by decide +kernel
theorem dX10_place_1 : decode cX10_place 1 = .ok (.getfield 171, 3) := by decide +kernel
theorem dX10_place_4 : decode cX10_place 4 = .ok (.ifCond .ne 9, 3) := by decide +kernel
theorem dX10_place_7 : decode cX10_place 7 = .ok (.aload_n 0, 1) := by decide +kernel
theorem dX10_place_8 : decode cX10_place 8 = .ok (.iconst 5, 1) := by decide +kernel
theorem dX10_place_9 : decode cX10_place 9 = .ok (.invokevirtual 68, 3) := by decide +kernel
theorem dX10_place_12 : decode cX10_place 12 = .ok (.ireturn, 1) := by decide +kernel
theorem dX10_place_13 : decode cX10_place 13 = .ok (.iload_n 1, 1) := by decide +kernel
theorem dX10_place_14 : decode cX10_place 14 = .ok (.ifCond .lt 9, 3) := by decide +kernel
theorem dX10_place_17 : decode cX10_place 17 = .ok (.iload_n 1, 1) := by decide +kernel
theorem dX10_place_18 : decode cX10_place 18 = .ok (.bipush 8, 2) := by decide +kernel
theorem dX10_place_20 : decode cX10_place 20 = .ok (.if_icmp .lt 9, 3) := by decide +kernel
theorem dX10_place_23 : decode cX10_place 23 = .ok (.aload_n 0, 1) := by decide +kernel
theorem dX10_place_24 : decode cX10_place 24 = .ok (.iconst 2, 1) := by decide +kernel
theorem dX10_place_25 : decode cX10_place 25 = .ok (.invokevirtual 68, 3) := by decide +kernel
theorem dX10_place_28 : decode cX10_place 28 = .ok (.ireturn, 1) := by decide +kernel
theorem dX10_place_29 : decode cX10_place 29 = .ok (.aload_n 0, 1) := by decide +kernel
theorem dX10_place_30 : decode cX10_place 30 = .ok (.aload_n 0, 1) := by decide +kernel
theorem dX10_place_31 : decode cX10_place 31 = .ok (.getfield 33, 3) := by decide +kernel
theorem dX10_place_34 : decode cX10_place 34 = .ok (.iload_n 1, 1) := by decide +kernel
theorem dX10_place_35 : decode cX10_place 35 = .ok (.invokevirtual 220, 3) := by decide +kernel
theorem dX10_place_38 : decode cX10_place 38 = .ok (.invokevirtual 76, 3) := by decide +kernel
theorem dX10_place_41 : decode cX10_place 41 = .ok (.ireturn, 1) := by decide +kernel
theorem dX10_wrong_0 : decode cX10_wrong 0 = .ok (.aload_n 0, 1) := by decide +kernel
theorem dX10_wrong_1 : decode cX10_wrong 1 = .ok (.getfield 16, 3) := by decide +kernel
theorem dX10_wrong_4 : decode cX10_wrong 4 = .ok (.iload_n 2, 1) := by decide +kernel
theorem dX10_wrong_5 : decode cX10_wrong 5 = .ok (.invokevirtual 98, 3) := by decide +kernel
theorem dX10_wrong_8 : decode cX10_wrong 8 = .ok (.ifCond .ne 9, 3) := by decide +kernel
theorem dX10_wrong_11 : decode cX10_wrong 11 = .ok (.aload_n 0, 1) := by decide +kernel
theorem dX10_wrong_12 : decode cX10_wrong 12 = .ok (.iconst 1, 1) := by decide +kernel
theorem dX10_wrong_13 : decode cX10_wrong 13 = .ok (.invokevirtual 68, 3) := by decide +kernel
theorem dX10_wrong_16 : decode cX10_wrong 16 = .ok (.ireturn, 1) := by decide +kernel
theorem dX10_wrong_17 : decode cX10_wrong 17 = .ok (.iload_n 1, 1) := by decide +kernel
theorem dX10_wrong_18 : decode cX10_wrong 18 = .ok (.ifCond .lt 8, 3) := by decide +kernel
theorem dX10_wrong_21 : decode cX10_wrong 21 = .ok (.iload_n 1, 1) := by decide +kernel
theorem dX10_wrong_22 : decode cX10_wrong 22 = .ok (.iconst 4, 1) := by decide +kernel
theorem dX10_wrong_23 : decode cX10_wrong 23 = .ok (.if_icmp .lt 9, 3) := by decide +kernel
theorem dX10_wrong_26 : decode cX10_wrong 26 = .ok (.aload_n 0, 1) := by decide +kernel
theorem dX10_wrong_27 : decode cX10_wrong 27 = .ok (.iconst 2, 1) := by decide +kernel
theorem dX10_wrong_28 : decode cX10_wrong 28 = .ok (.invokevirtual 68, 3) := by decide +kernel
theorem dX10_wrong_31 : decode cX10_wrong 31 = .ok (.ireturn, 1) := by decide +kernel
theorem dX10_wrong_32 : decode cX10_wrong 32 = .ok (.aload_n 0, 1) := by decide +kernel
theorem dX10_wrong_33 : decode cX10_wrong 33 = .ok (.getfield 40, 3) := by decide +kernel
theorem dX10_wrong_36 : decode cX10_wrong 36 = .ok (.aload_n 0, 1) := by decide +kernel
theorem dX10_wrong_37 : decode cX10_wrong 37 = .ok (.getfield 16, 3) := by decide +kernel
theorem dX10_wrong_40 : decode cX10_wrong 40 = .ok (.sipush 2000, 3) := by decide +kernel
theorem dX10_wrong_43 : decode cX10_wrong 43 = .ok (.iload_n 1, 1) := by decide +kernel
theorem dX10_wrong_44 : decode cX10_wrong 44 = .ok (.invokevirtual 163, 3) := by decide +kernel
theorem dX10_wrong_47 : decode cX10_wrong 47 = .ok (.aload_n 0, 1) := by decide +kernel
theorem dX10_wrong_48 : decode cX10_wrong 48 = .ok (.getfield 40, 3) := by decide +kernel
theorem dX10_wrong_51 : decode cX10_wrong 51 = .ok (.iload_n 2, 1) := by decide +kernel
theorem dX10_wrong_52 : decode cX10_wrong 52 = .ok (.iload_n 3, 1) := by decide +kernel
theorem dX10_wrong_53 : decode cX10_wrong 53 = .ok (.iload 4, 2) := by decide +kernel
theorem dX10_wrong_55 : decode cX10_wrong 55 = .ok (.iload 5, 2) := by decide +kernel
theorem dX10_wrong_57 : decode cX10_wrong 57 = .ok (.invokevirtual 167, 3) := by decide +kernel
theorem dX10_wrong_60 : decode cX10_wrong 60 = .ok (.aload_n 0, 1) := by decide +kernel
theorem dX10_wrong_61 : decode cX10_wrong 61 = .ok (.aload_n 0, 1) := by decide +kernel
theorem dX10_wrong_62 : decode cX10_wrong 62 = .ok (.getfield 40, 3) := by decide +kernel
theorem dX10_wrong_65 : decode cX10_wrong 65 = .ok (.getfield 178, 3) := by decide +kernel
theorem dX10_wrong_68 : decode cX10_wrong 68 = .ok (.invokevirtual 76, 3) := by decide +kernel
theorem dX10_wrong_71 : decode cX10_wrong 71 = .ok (.ireturn, 1) := by decide +kernel
theorem dX10_unlike_0 : decode cX10_unlike 0 = .ok (.aload_n 0, 1) := by decide +kernel
theorem dX10_unlike_1 : decode cX10_unlike 1 = .ok (.getfield 16, 3) := by decide +kernel
theorem dX10_unlike_4 : decode cX10_unlike 4 = .ok (.iload_n 1, 1) := by decide +kernel
theorem dX10_unlike_5 : decode cX10_unlike 5 = .ok (.invokevirtual 98, 3) := by decide +kernel
theorem dX10_unlike_8 : decode cX10_unlike 8 = .ok (.ifCond .ne 9, 3) := by decide +kernel
theorem dX10_unlike_11 : decode cX10_unlike 11 = .ok (.aload_n 0, 1) := by decide +kernel
theorem dX10_unlike_12 : decode cX10_unlike 12 = .ok (.iconst 1, 1) := by decide +kernel
theorem dX10_unlike_13 : decode cX10_unlike 13 = .ok (.invokevirtual 68, 3) := by decide +kernel
theorem dX10_unlike_16 : decode cX10_unlike 16 = .ok (.ireturn, 1) := by decide +kernel
theorem dX10_unlike_17 : decode cX10_unlike 17 = .ok (.aload_n 0, 1) := by decide +kernel
theorem dX10_unlike_18 : decode cX10_unlike 18 = .ok (.getfield 37, 3) := by decide +kernel
theorem dX10_unlike_21 : decode cX10_unlike 21 = .ok (.aload_n 0, 1) := by decide +kernel
theorem dX10_unlike_22 : decode cX10_unlike 22 = .ok (.getfield 16, 3) := by decide +kernel
theorem dX10_unlike_25 : decode cX10_unlike 25 = .ok (.sipush 2000, 3) := by decide +kernel
theorem dX10_unlike_28 : decode cX10_unlike 28 = .ok (.iconst (-1), 1) := by decide +kernel
theorem dX10_unlike_29 : decode cX10_unlike 29 = .ok (.invokevirtual 163, 3) := by decide +kernel
theorem dX10_unlike_32 : decode cX10_unlike 32 = .ok (.aload_n 0, 1) := by decide +kernel
theorem dX10_unlike_33 : decode cX10_unlike 33 = .ok (.getfield 37, 3) := by decide +kernel
theorem dX10_unlike_36 : decode cX10_unlike 36 = .ok (.iload_n 1, 1) := by decide +kernel
theorem dX10_unlike_37 : decode cX10_unlike 37 = .ok (.iload_n 2, 1) := by decide +kernel
theorem dX10_unlike_38 : decode cX10_unlike 38 = .ok (.iload_n 3, 1) := by decide +kernel
theorem dX10_unlike_39 : decode cX10_unlike 39 = .ok (.iload 4, 2) := by decide +kernel
theorem dX10_unlike_41 : decode cX10_unlike 41 = .ok (.invokevirtual 167, 3) := by decide +kernel
theorem dX10_unlike_44 : decode cX10_unlike 44 = .ok (.iconst 0, 1) := by decide +kernel
theorem dX10_unlike_45 : decode cX10_unlike 45 = .ok (.istore 5, 2) := by decide +kernel
theorem dX10_unlike_47 : decode cX10_unlike 47 = .ok (.iconst 0, 1) := by decide +kernel
theorem dX10_unlike_48 : decode cX10_unlike 48 = .ok (.istore 6, 2) := by decide +kernel
theorem dX10_unlike_50 : decode cX10_unlike 50 = .ok (.iload 6, 2) := by decide +kernel
theorem dX10_unlike_52 : decode cX10_unlike 52 = .ok (.iconst 4, 1) := by decide +kernel
theorem dX10_unlike_53 : decode cX10_unlike 53 = .ok (.if_icmp .ge 54, 3) := by decide +kernel
theorem dX10_unlike_56 : decode cX10_unlike 56 = .ok (.aload_n 0, 1) := by decide +kernel
theorem dX10_unlike_57 : decode cX10_unlike 57 = .ok (.getfield 40, 3) := by decide +kernel
theorem dX10_unlike_60 : decode cX10_unlike 60 = .ok (.aload_n 0, 1) := by decide +kernel
theorem dX10_unlike_61 : decode cX10_unlike 61 = .ok (.getfield 16, 3) := by decide +kernel
theorem dX10_unlike_64 : decode cX10_unlike 64 = .ok (.sipush 2000, 3) := by decide +kernel
theorem dX10_unlike_67 : decode cX10_unlike 67 = .ok (.iload 6, 2) := by decide +kernel
theorem dX10_unlike_69 : decode cX10_unlike 69 = .ok (.invokevirtual 163, 3) := by decide +kernel
theorem dX10_unlike_72 : decode cX10_unlike 72 = .ok (.aload_n 0, 1) := by decide +kernel
theorem dX10_unlike_73 : decode cX10_unlike 73 = .ok (.getfield 40, 3) := by decide +kernel
theorem dX10_unlike_76 : decode cX10_unlike 76 = .ok (.iload_n 1, 1) := by decide +kernel
theorem dX10_unlike_77 : decode cX10_unlike 77 = .ok (.iload_n 2, 1) := by decide +kernel
theorem dX10_unlike_78 : decode cX10_unlike 78 = .ok (.iload_n 3, 1) := by decide +kernel
theorem dX10_unlike_79 : decode cX10_unlike 79 = .ok (.iload 4, 2) := by decide +kernel
theorem dX10_unlike_81 : decode cX10_unlike 81 = .ok (.invokevirtual 167, 3) := by decide +kernel
theorem dX10_unlike_84 : decode cX10_unlike 84 = .ok (.aload_n 0, 1) := by decide +kernel
theorem dX10_unlike_85 : decode cX10_unlike 85 = .ok (.getfield 40, 3) := by decide +kernel
theorem dX10_unlike_88 : decode cX10_unlike 88 = .ok (.aload_n 0, 1) := by decide +kernel
theorem dX10_unlike_89 : decode cX10_unlike 89 = .ok (.getfield 37, 3) := by decide +kernel
theorem dX10_unlike_92 : decode cX10_unlike 92 = .ok (.invokevirtual 223, 3) := by decide +kernel
theorem dX10_unlike_95 : decode cX10_unlike 95 = .ok (.ifCond .ne 6, 3) := by decide +kernel
theorem dX10_unlike_98 : decode cX10_unlike 98 = .ok (.iinc 5 1, 3) := by decide +kernel
theorem dX10_unlike_101 : decode cX10_unlike 101 = .ok (.iinc 6 1, 3) := by decide +kernel
theorem dX10_unlike_104 : decode cX10_unlike 104 = .ok (.goto (-54), 3) := by decide +kernel
theorem dX10_unlike_107 : decode cX10_unlike 107 = .ok (.aload_n 0, 1) := by decide +kernel
theorem dX10_unlike_108 : decode cX10_unlike 108 = .ok (.iload 5, 2) := by decide +kernel
theorem dX10_unlike_110 : decode cX10_unlike 110 = .ok (.invokevirtual 76, 3) := by decide +kernel
theorem dX10_unlike_113 : decode cX10_unlike 113 = .ok (.ireturn, 1) := by decide +kernel
theorem dX10_order_0 : decode cX10_order 0 = .ok (.aload_n 0, 1) := by decide +kernel
theorem dX10_order_1 : decode cX10_order 1 = .ok (.getfield 16, 3) := by decide +kernel
theorem dX10_order_4 : decode cX10_order 4 = .ok (.getfield 89, 3) := by decide +kernel
theorem dX10_order_7 : decode cX10_order 7 = .ok (.ifCond .ne 6, 3) := by decide +kernel
theorem dX10_order_10 : decode cX10_order 10 = .ok (.bipush (-2), 2) := by decide +kernel
theorem dX10_order_12 : decode cX10_order 12 = .ok (.ireturn, 1) := by decide +kernel
theorem dX10_order_13 : decode cX10_order 13 = .ok (.aload_n 0, 1) := by decide +kernel
theorem dX10_order_14 : decode cX10_order 14 = .ok (.getfield 46, 3) := by decide +kernel
theorem dX10_order_17 : decode cX10_order 17 = .ok (.aload_n 0, 1) := by decide +kernel
theorem dX10_order_18 : decode cX10_order 18 = .ok (.getfield 16, 3) := by decide +kernel
theorem dX10_order_21 : decode cX10_order 21 = .ok (.invokevirtual 227, 3) := by decide +kernel
theorem dX10_order_24 : decode cX10_order 24 = .ok (.ireturn, 1) := by decide +kernel
theorem dX10_chapter_0 : decode cX10_chapter 0 = .ok (.aload_n 0, 1) := by decide +kernel
theorem dX10_chapter_1 : decode cX10_chapter 1 = .ok (.getfield 16, 3) := by decide +kernel
theorem dX10_chapter_4 : decode cX10_chapter 4 = .ok (.iload_n 1, 1) := by decide +kernel
theorem dX10_chapter_5 : decode cX10_chapter 5 = .ok (.invokevirtual 98, 3) := by decide +kernel
theorem dX10_chapter_8 : decode cX10_chapter 8 = .ok (.ifCond .ne 5, 3) := by decide +kernel
theorem dX10_chapter_11 : decode cX10_chapter 11 = .ok (.iconst (-1), 1) := by decide +kernel
theorem dX10_chapter_12 : decode cX10_chapter 12 = .ok (.ireturn, 1) := by decide +kernel
theorem dX10_chapter_13 : decode cX10_chapter 13 = .ok (.aload_n 0, 1) := by decide +kernel
theorem dX10_chapter_14 : decode cX10_chapter 14 = .ok (.getfield 46, 3) := by decide +kernel
theorem dX10_chapter_17 : decode cX10_chapter 17 = .ok (.aload_n 0, 1) := by decide +kernel
theorem dX10_chapter_18 : decode cX10_chapter 18 = .ok (.getfield 16, 3) := by decide +kernel
theorem dX10_chapter_21 : decode cX10_chapter 21 = .ok (.iload_n 1, 1) := by decide +kernel
theorem dX10_chapter_22 : decode cX10_chapter 22 = .ok (.invokevirtual 231, 3) := by decide +kernel
theorem dX10_chapter_25 : decode cX10_chapter 25 = .ok (.ireturn, 1) := by decide +kernel
theorem dX10_tell_0 : decode cX10_tell 0 = .ok (.aload_n 0, 1) := by decide +kernel
theorem dX10_tell_1 : decode cX10_tell 1 = .ok (.getfield 16, 3) := by decide +kernel
theorem dX10_tell_4 : decode cX10_tell 4 = .ok (.iload_n 1, 1) := by decide +kernel
theorem dX10_tell_5 : decode cX10_tell 5 = .ok (.invokevirtual 98, 3) := by decide +kernel
theorem dX10_tell_8 : decode cX10_tell 8 = .ok (.ifCond .ne 9, 3) := by decide +kernel
theorem dX10_tell_11 : decode cX10_tell 11 = .ok (.aload_n 0, 1) := by decide +kernel
theorem dX10_tell_12 : decode cX10_tell 12 = .ok (.iconst 1, 1) := by decide +kernel
theorem dX10_tell_13 : decode cX10_tell 13 = .ok (.invokevirtual 68, 3) := by decide +kernel
theorem dX10_tell_16 : decode cX10_tell 16 = .ok (.ireturn, 1) := by decide +kernel
theorem dX10_tell_17 : decode cX10_tell 17 = .ok (.aload_n 0, 1) := by decide +kernel
theorem dX10_tell_18 : decode cX10_tell 18 = .ok (.getfield 53, 3) := by decide +kernel
theorem dX10_tell_21 : decode cX10_tell 21 = .ok (.invokevirtual 235, 3) := by decide +kernel
theorem dX10_tell_24 : decode cX10_tell 24 = .ok (.ifCond .eq 9, 3) := by decide +kernel
theorem dX10_tell_27 : decode cX10_tell 27 = .ok (.aload_n 0, 1) := by decide +kernel
theorem dX10_tell_28 : decode cX10_tell 28 = .ok (.iconst 3, 1) := by decide +kernel
theorem dX10_tell_29 : decode cX10_tell 29 = .ok (.invokevirtual 68, 3) := by decide +kernel
theorem dX10_tell_32 : decode cX10_tell 32 = .ok (.ireturn, 1) := by decide +kernel
theorem dX10_tell_33 : decode cX10_tell 33 = .ok (.aload_n 0, 1) := by decide +kernel
theorem dX10_tell_34 : decode cX10_tell 34 = .ok (.getfield 40, 3) := by decide +kernel
theorem dX10_tell_37 : decode cX10_tell 37 = .ok (.aload_n 0, 1) := by decide +kernel
theorem dX10_tell_38 : decode cX10_tell 38 = .ok (.getfield 16, 3) := by decide +kernel
theorem dX10_tell_41 : decode cX10_tell 41 = .ok (.sipush 2000, 3) := by decide +kernel
theorem dX10_tell_44 : decode cX10_tell 44 = .ok (.iconst (-1), 1) := by decide +kernel
theorem dX10_tell_45 : decode cX10_tell 45 = .ok (.invokevirtual 163, 3) := by decide +kernel
theorem dX10_tell_48 : decode cX10_tell 48 = .ok (.aload_n 0, 1) := by decide +kernel
theorem dX10_tell_49 : decode cX10_tell 49 = .ok (.getfield 40, 3) := by decide +kernel
theorem dX10_tell_52 : decode cX10_tell 52 = .ok (.iload_n 1, 1) := by decide +kernel
theorem dX10_tell_53 : decode cX10_tell 53 = .ok (.iload_n 2, 1) := by decide +kernel
theorem dX10_tell_54 : decode cX10_tell 54 = .ok (.iload_n 3, 1) := by decide +kernel
theorem dX10_tell_55 : decode cX10_tell 55 = .ok (.iload 4, 2) := by decide +kernel
theorem dX10_tell_57 : decode cX10_tell 57 = .ok (.invokevirtual 167, 3) := by decide +kernel
theorem dX10_tell_60 : decode cX10_tell 60 = .ok (.aload_n 0, 1) := by decide +kernel
theorem dX10_tell_61 : decode cX10_tell 61 = .ok (.aload_n 0, 1) := by decide +kernel
theorem dX10_tell_62 : decode cX10_tell 62 = .ok (.getfield 53, 3) := by decide +kernel
theorem dX10_tell_65 : decode cX10_tell 65 = .ok (.aload_n 0, 1) := by decide +kernel
theorem dX10_tell_66 : decode cX10_tell 66 = .ok (.getfield 40, 3) := by decide +kernel
theorem dX10_tell_69 : decode cX10_tell 69 = .ok (.getfield 190, 3) := by decide +kernel
theorem dX10_tell_72 : decode cX10_tell 72 = .ok (.invokevirtual 239, 3) := by decide +kernel
theorem dX10_tell_75 : decode cX10_tell 75 = .ok (.invokevirtual 76, 3) := by decide +kernel
theorem dX10_tell_78 : decode cX10_tell 78 = .ok (.ireturn, 1) := by decide +kernel
theorem dX10_shown_0 : decode cX10_shown 0 = .ok (.aload_n 0, 1) := by decide +kernel
theorem dX10_shown_1 : decode cX10_shown 1 = .ok (.getfield 53, 3) := by decide +kernel
theorem dX10_shown_4 : decode cX10_shown 4 = .ok (.invokevirtual 242, 3) := by decide +kernel
theorem dX10_shown_7 : decode cX10_shown 7 = .ok (.invokestatic 194, 3) := by decide +kernel
theorem dX10_shown_10 : decode cX10_shown 10 = .ok (.ireturn, 1) := by decide +kernel
theorem dX10_fewest_0 : decode cX10_fewest 0 = .ok (.aload_n 0, 1) := by decide +kernel
theorem dX10_fewest_1 : decode cX10_fewest 1 = .ok (.getfield 53, 3) := by decide +kernel
theorem dX10_fewest_4 : decode cX10_fewest 4 = .ok (.invokevirtual 246, 3) := by decide +kernel
theorem dX10_fewest_7 : decode cX10_fewest 7 = .ok (.ireturn, 1) := by decide +kernel
theorem dX10_picked_0 : decode cX10_picked 0 = .ok (.aload_n 0, 1) := by decide +kernel
theorem dX10_picked_1 : decode cX10_picked 1 = .ok (.getfield 53, 3) := by decide +kernel
theorem dX10_picked_4 : decode cX10_picked 4 = .ok (.iload_n 1, 1) := by decide +kernel
theorem dX10_picked_5 : decode cX10_picked 5 = .ok (.invokevirtual 250, 3) := by decide +kernel
theorem dX10_picked_8 : decode cX10_picked 8 = .ok (.ireturn, 1) := by decide +kernel
theorem dX10_anew_0 : decode cX10_anew 0 = .ok (.aload_n 0, 1) := by decide +kernel
theorem dX10_anew_1 : decode cX10_anew 1 = .ok (.getfield 16, 3) := by decide +kernel
theorem dX10_anew_4 : decode cX10_anew 4 = .ok (.iload_n 1, 1) := by decide +kernel
theorem dX10_anew_5 : decode cX10_anew 5 = .ok (.invokevirtual 98, 3) := by decide +kernel
theorem dX10_anew_8 : decode cX10_anew 8 = .ok (.ifCond .ne 5, 3) := by decide +kernel
theorem dX10_anew_11 : decode cX10_anew 11 = .ok (.iconst (-1), 1) := by decide +kernel
theorem dX10_anew_12 : decode cX10_anew 12 = .ok (.ireturn, 1) := by decide +kernel
theorem dX10_anew_13 : decode cX10_anew 13 = .ok (.aload_n 0, 1) := by decide +kernel
theorem dX10_anew_14 : decode cX10_anew 14 = .ok (.getfield 60, 3) := by decide +kernel
theorem dX10_anew_17 : decode cX10_anew 17 = .ok (.iload_n 1, 1) := by decide +kernel
theorem dX10_anew_18 : decode cX10_anew 18 = .ok (.invokevirtual 253, 3) := by decide +kernel
theorem dX10_anew_21 : decode cX10_anew 21 = .ok (.ireturn, 1) := by decide +kernel
theorem dX10_gone_0 : decode cX10_gone 0 = .ok (.aload_n 0, 1) := by decide +kernel
theorem dX10_gone_1 : decode cX10_gone 1 = .ok (.getfield 60, 3) := by decide +kernel
theorem dX10_gone_4 : decode cX10_gone 4 = .ok (.getfield 256, 3) := by decide +kernel
theorem dX10_gone_7 : decode cX10_gone 7 = .ok (.ireturn, 1) := by decide +kernel
theorem dX10_count_0 : decode cX10_count 0 = .ok (.iload_n 1, 1) := by decide +kernel
theorem dX10_count_1 : decode cX10_count 1 = .ok (.tableswitch 60 0 3 #[31, 39, 47, 55], 31) := by decide +kernel
theorem dX10_count_32 : decode cX10_count 32 = .ok (.aload_n 0, 1) := by decide +kernel
theorem dX10_count_33 : decode cX10_count 33 = .ok (.getfield 16, 3) := by decide +kernel
theorem dX10_count_36 : decode cX10_count 36 = .ok (.getfield 89, 3) := by decide +kernel
theorem dX10_count_39 : decode cX10_count 39 = .ok (.ireturn, 1) := by decide +kernel
theorem dX10_count_40 : decode cX10_count 40 = .ok (.aload_n 0, 1) := by decide +kernel
theorem dX10_count_41 : decode cX10_count 41 = .ok (.getfield 16, 3) := by decide +kernel
theorem dX10_count_44 : decode cX10_count 44 = .ok (.getfield 259, 3) := by decide +kernel
theorem dX10_count_47 : decode cX10_count 47 = .ok (.ireturn, 1) := by decide +kernel
theorem dX10_count_48 : decode cX10_count 48 = .ok (.aload_n 0, 1) := by decide +kernel
theorem dX10_count_49 : decode cX10_count 49 = .ok (.getfield 53, 3) := by decide +kernel
theorem dX10_count_52 : decode cX10_count 52 = .ok (.getfield 260, 3) := by decide +kernel
theorem dX10_count_55 : decode cX10_count 55 = .ok (.ireturn, 1) := by decide +kernel
theorem dX10_count_56 : decode cX10_count 56 = .ok (.aload_n 0, 1) := by decide +kernel
theorem dX10_count_57 : decode cX10_count 57 = .ok (.getfield 64, 3) := by decide +kernel
theorem dX10_count_60 : decode cX10_count 60 = .ok (.ireturn, 1) := by decide +kernel
theorem dX10_count_61 : decode cX10_count 61 = .ok (.iconst (-1), 1) := by decide +kernel
theorem dX10_count_62 : decode cX10_count 62 = .ok (.ireturn, 1) := by decide +kernel
theorem dX10_trouble_0 : decode cX10_trouble 0 = .ok (.aload_n 0, 1) := by decide +kernel
theorem dX10_trouble_1 : decode cX10_trouble 1 = .ok (.getfield 92, 3) := by decide +kernel
theorem dX10_trouble_4 : decode cX10_trouble 4 = .ok (.ireturn, 1) := by decide +kernel
theorem dX10_refuse_0 : decode cX10_refuse 0 = .ok (.aload_n 0, 1) := by decide +kernel
theorem dX10_refuse_1 : decode cX10_refuse 1 = .ok (.iload_n 1, 1) := by decide +kernel
theorem dX10_refuse_2 : decode cX10_refuse 2 = .ok (.putfield 92, 3) := by decide +kernel
theorem dX10_refuse_5 : decode cX10_refuse 5 = .ok (.iconst (-1), 1) := by decide +kernel
theorem dX10_refuse_6 : decode cX10_refuse 6 = .ok (.ireturn, 1) := by decide +kernel
theorem dX10_accept_0 : decode cX10_accept 0 = .ok (.aload_n 0, 1) := by decide +kernel
theorem dX10_accept_1 : decode cX10_accept 1 = .ok (.iconst 0, 1) := by decide +kernel
theorem dX10_accept_2 : decode cX10_accept 2 = .ok (.putfield 92, 3) := by decide +kernel
theorem dX10_accept_5 : decode cX10_accept 5 = .ok (.iload_n 1, 1) := by decide +kernel
theorem dX10_accept_6 : decode cX10_accept 6 = .ok (.ireturn, 1) := by decide +kernel
theorem dX10_feedNumber_0 : decode cX10_feedNumber 0 = .ok (.bipush 24, 2) := by decide +kernel
theorem dX10_feedNumber_2 : decode cX10_feedNumber 2 = .ok (.istore_n 2, 1) := by decide +kernel
theorem dX10_feedNumber_3 : decode cX10_feedNumber 3 = .ok (.iload_n 2, 1) := by decide +kernel
theorem dX10_feedNumber_4 : decode cX10_feedNumber 4 = .ok (.ifCond .lt 51, 3) := by decide +kernel
theorem dX10_feedNumber_7 : decode cX10_feedNumber 7 = .ok (.aload_n 0, 1) := by decide +kernel
theorem dX10_feedNumber_8 : decode cX10_feedNumber 8 = .ok (.getfield 64, 3) := by decide +kernel
theorem dX10_feedNumber_11 : decode cX10_feedNumber 11 = .ok (.ifCond .lt 38, 3) := by decide +kernel
theorem dX10_feedNumber_14 : decode cX10_feedNumber 14 = .ok (.aload_n 0, 1) := by decide +kernel
theorem dX10_feedNumber_15 : decode cX10_feedNumber 15 = .ok (.getfield 64, 3) := by decide +kernel
theorem dX10_feedNumber_18 : decode cX10_feedNumber 18 = .ok (.aload_n 0, 1) := by decide +kernel
theorem dX10_feedNumber_19 : decode cX10_feedNumber 19 = .ok (.getfield 9, 3) := by decide +kernel
theorem dX10_feedNumber_22 : decode cX10_feedNumber 22 = .ok (.arraylength, 1) := by decide +kernel
theorem dX10_feedNumber_23 : decode cX10_feedNumber 23 = .ok (.if_icmp .ge 26, 3) := by decide +kernel
theorem dX10_feedNumber_26 : decode cX10_feedNumber 26 = .ok (.aload_n 0, 1) := by decide +kernel
theorem dX10_feedNumber_27 : decode cX10_feedNumber 27 = .ok (.getfield 9, 3) := by decide +kernel
theorem dX10_feedNumber_30 : decode cX10_feedNumber 30 = .ok (.aload_n 0, 1) := by decide +kernel
theorem dX10_feedNumber_31 : decode cX10_feedNumber 31 = .ok (.getfield 64, 3) := by decide +kernel
theorem dX10_feedNumber_34 : decode cX10_feedNumber 34 = .ok (.iload_n 1, 1) := by decide +kernel
theorem dX10_feedNumber_35 : decode cX10_feedNumber 35 = .ok (.iload_n 2, 1) := by decide +kernel
theorem dX10_feedNumber_36 : decode cX10_feedNumber 36 = .ok (.ishr, 1) := by decide +kernel
theorem dX10_feedNumber_37 : decode cX10_feedNumber 37 = .ok (.i2b, 1) := by decide +kernel
theorem dX10_feedNumber_38 : decode cX10_feedNumber 38 = .ok (.bastore, 1) := by decide +kernel
theorem dX10_feedNumber_39 : decode cX10_feedNumber 39 = .ok (.aload_n 0, 1) := by decide +kernel
theorem dX10_feedNumber_40 : decode cX10_feedNumber 40 = .ok (.dup, 1) := by decide +kernel
theorem dX10_feedNumber_41 : decode cX10_feedNumber 41 = .ok (.getfield 64, 3) := by decide +kernel
theorem dX10_feedNumber_44 : decode cX10_feedNumber 44 = .ok (.iconst 1, 1) := by decide +kernel
theorem dX10_feedNumber_45 : decode cX10_feedNumber 45 = .ok (.iadd, 1) := by decide +kernel
theorem dX10_feedNumber_46 : decode cX10_feedNumber 46 = .ok (.putfield 64, 3) := by decide +kernel
theorem dX10_feedNumber_49 : decode cX10_feedNumber 49 = .ok (.iinc 2 (-8), 3) := by decide +kernel
theorem dX10_feedNumber_52 : decode cX10_feedNumber 52 = .ok (.goto (-49), 3) := by decide +kernel
theorem dX10_feedNumber_55 : decode cX10_feedNumber 55 = .ok (.return_, 1) := by decide +kernel
theorem dX11_init_0 : decode cX11_init 0 = .ok (.aload_n 0, 1) := by decide +kernel
theorem dX11_init_1 : decode cX11_init 1 = .ok (.invokespecial 3, 3) := by decide +kernel
theorem dX11_init_4 : decode cX11_init 4 = .ok (.aload_n 0, 1) := by decide +kernel
theorem dX11_init_5 : decode cX11_init 5 = .ok (.bipush 10, 2) := by decide +kernel
theorem dX11_init_7 : decode cX11_init 7 = .ok (.newarray .long, 2) := by decide +kernel
theorem dX11_init_9 : decode cX11_init 9 = .ok (.putfield 9, 3) := by decide +kernel
theorem dX11_init_12 : decode cX11_init 12 = .ok (.aload_n 0, 1) := by decide +kernel
theorem dX11_init_13 : decode cX11_init 13 = .ok (.bipush 10, 2) := by decide +kernel
theorem dX11_init_15 : decode cX11_init 15 = .ok (.newarray .int, 2) := by decide +kernel
theorem dX11_init_17 : decode cX11_init 17 = .ok (.putfield 15, 3) := by decide +kernel
theorem dX11_init_20 : decode cX11_init 20 = .ok (.aload_n 0, 1) := by decide +kernel
theorem dX11_init_21 : decode cX11_init 21 = .ok (.bipush 10, 2) := by decide +kernel
theorem dX11_init_23 : decode cX11_init 23 = .ok (.newarray .int, 2) := by decide +kernel
theorem dX11_init_25 : decode cX11_init 25 = .ok (.putfield 19, 3) := by decide +kernel
theorem dX11_init_28 : decode cX11_init 28 = .ok (.aload_n 0, 1) := by decide +kernel
theorem dX11_init_29 : decode cX11_init 29 = .ok (.bipush 10, 2) := by decide +kernel
theorem dX11_init_31 : decode cX11_init 31 = .ok (.newarray .int, 2) := by decide +kernel
theorem dX11_init_33 : decode cX11_init 33 = .ok (.putfield 22, 3) := by decide +kernel
theorem dX11_init_36 : decode cX11_init 36 = .ok (.aload_n 0, 1) := by decide +kernel
theorem dX11_init_37 : decode cX11_init 37 = .ok (.bipush 10, 2) := by decide +kernel
theorem dX11_init_39 : decode cX11_init 39 = .ok (.newarray .int, 2) := by decide +kernel
theorem dX11_init_41 : decode cX11_init 41 = .ok (.putfield 25, 3) := by decide +kernel
theorem dX11_init_44 : decode cX11_init 44 = .ok (.aload_n 0, 1) := by decide +kernel
theorem dX11_init_45 : decode cX11_init 45 = .ok (.bipush 10, 2) := by decide +kernel
theorem dX11_init_47 : decode cX11_init 47 = .ok (.newarray .int, 2) := by decide +kernel
theorem dX11_init_49 : decode cX11_init 49 = .ok (.putfield 28, 3) := by decide +kernel
theorem dX11_init_52 : decode cX11_init 52 = .ok (.aload_n 0, 1) := by decide +kernel
theorem dX11_init_53 : decode cX11_init 53 = .ok (.bipush 10, 2) := by decide +kernel
theorem dX11_init_55 : decode cX11_init 55 = .ok (.newarray .int, 2) := by decide +kernel
theorem dX11_init_57 : decode cX11_init 57 = .ok (.putfield 31, 3) := by decide +kernel
theorem dX11_init_60 : decode cX11_init 60 = .ok (.aload_n 0, 1) := by decide +kernel
theorem dX11_init_61 : decode cX11_init 61 = .ok (.bipush 10, 2) := by decide +kernel
theorem dX11_init_63 : decode cX11_init 63 = .ok (.newarray .int, 2) := by decide +kernel
theorem dX11_init_65 : decode cX11_init 65 = .ok (.putfield 34, 3) := by decide +kernel
theorem dX11_init_68 : decode cX11_init 68 = .ok (.aload_n 0, 1) := by decide +kernel
theorem dX11_init_69 : decode cX11_init 69 = .ok (.bipush 30, 2) := by decide +kernel
theorem dX11_init_71 : decode cX11_init 71 = .ok (.newarray .int, 2) := by decide +kernel
theorem dX11_init_73 : decode cX11_init 73 = .ok (.putfield 37, 3) := by decide +kernel
theorem dX11_init_76 : decode cX11_init 76 = .ok (.aload_n 0, 1) := by decide +kernel
theorem dX11_init_77 : decode cX11_init 77 = .ok (.bipush 60, 2) := by decide +kernel
theorem dX11_init_79 : decode cX11_init 79 = .ok (.newarray .int, 2) := by decide +kernel
theorem dX11_init_81 : decode cX11_init 81 = .ok (.putfield 40, 3) := by decide +kernel
theorem dX11_init_84 : decode cX11_init 84 = .ok (.aload_n 0, 1) := by decide +kernel
theorem dX11_init_85 : decode cX11_init 85 = .ok (.bipush 60, 2) := by decide +kernel
theorem dX11_init_87 : decode cX11_init 87 = .ok (.newarray .int, 2) := by decide +kernel
theorem dX11_init_89 : decode cX11_init 89 = .ok (.putfield 43, 3) := by decide +kernel
theorem dX11_init_92 : decode cX11_init 92 = .ok (.aload_n 0, 1) := by decide +kernel
theorem dX11_init_93 : decode cX11_init 93 = .ok (.bipush 60, 2) := by decide +kernel
theorem dX11_init_95 : decode cX11_init 95 = .ok (.newarray .int, 2) := by decide +kernel
theorem dX11_init_97 : decode cX11_init 97 = .ok (.putfield 46, 3) := by decide +kernel
theorem dX11_init_100 : decode cX11_init 100 = .ok (.aload_n 0, 1) := by decide +kernel
theorem dX11_init_101 : decode cX11_init 101 = .ok (.bipush 60, 2) := by decide +kernel
theorem dX11_init_103 : decode cX11_init 103 = .ok (.newarray .int, 2) := by decide +kernel
theorem dX11_init_105 : decode cX11_init 105 = .ok (.putfield 49, 3) := by decide +kernel
theorem dX11_init_108 : decode cX11_init 108 = .ok (.aload_n 0, 1) := by decide +kernel
theorem dX11_init_109 : decode cX11_init 109 = .ok (.bipush 60, 2) := by decide +kernel
theorem dX11_init_111 : decode cX11_init 111 = .ok (.newarray .int, 2) := by decide +kernel
theorem dX11_init_113 : decode cX11_init 113 = .ok (.putfield 52, 3) := by decide +kernel
theorem dX11_init_116 : decode cX11_init 116 = .ok (.aload_n 0, 1) := by decide +kernel
theorem dX11_init_117 : decode cX11_init 117 = .ok (.bipush 60, 2) := by decide +kernel
theorem dX11_init_119 : decode cX11_init 119 = .ok (.newarray .int, 2) := by decide +kernel
theorem dX11_init_121 : decode cX11_init 121 = .ok (.putfield 55, 3) := by decide +kernel
theorem dX11_init_124 : decode cX11_init 124 = .ok (.aload_n 0, 1) := by decide +kernel
theorem dX11_init_125 : decode cX11_init 125 = .ok (.bipush 60, 2) := by decide +kernel
theorem dX11_init_127 : decode cX11_init 127 = .ok (.newarray .int, 2) := by decide +kernel
theorem dX11_init_129 : decode cX11_init 129 = .ok (.putfield 58, 3) := by decide +kernel
theorem dX11_init_132 : decode cX11_init 132 = .ok (.aload_n 0, 1) := by decide +kernel
theorem dX11_init_133 : decode cX11_init 133 = .ok (.bipush 60, 2) := by decide +kernel
theorem dX11_init_135 : decode cX11_init 135 = .ok (.newarray .int, 2) := by decide +kernel
theorem dX11_init_137 : decode cX11_init 137 = .ok (.putfield 61, 3) := by decide +kernel
theorem dX11_init_140 : decode cX11_init 140 = .ok (.aload_n 0, 1) := by decide +kernel
theorem dX11_init_141 : decode cX11_init 141 = .ok (.bipush 60, 2) := by decide +kernel
theorem dX11_init_143 : decode cX11_init 143 = .ok (.newarray .int, 2) := by decide +kernel
theorem dX11_init_145 : decode cX11_init 145 = .ok (.putfield 64, 3) := by decide +kernel
theorem dX11_init_148 : decode cX11_init 148 = .ok (.aload_n 0, 1) := by decide +kernel
theorem dX11_init_149 : decode cX11_init 149 = .ok (.bipush 60, 2) := by decide +kernel
theorem dX11_init_151 : decode cX11_init 151 = .ok (.newarray .int, 2) := by decide +kernel
theorem dX11_init_153 : decode cX11_init 153 = .ok (.putfield 67, 3) := by decide +kernel
theorem dX11_init_156 : decode cX11_init 156 = .ok (.aload_n 0, 1) := by decide +kernel
theorem dX11_init_157 : decode cX11_init 157 = .ok (.bipush 60, 2) := by decide +kernel
theorem dX11_init_159 : decode cX11_init 159 = .ok (.newarray .int, 2) := by decide +kernel
theorem dX11_init_161 : decode cX11_init 161 = .ok (.putfield 70, 3) := by decide +kernel
theorem dX11_init_164 : decode cX11_init 164 = .ok (.aload_n 0, 1) := by decide +kernel
theorem dX11_init_165 : decode cX11_init 165 = .ok (.sipush 620, 3) := by decide +kernel
theorem dX11_init_168 : decode cX11_init 168 = .ok (.newarray .int, 2) := by decide +kernel
theorem dX11_init_170 : decode cX11_init 170 = .ok (.putfield 73, 3) := by decide +kernel
theorem dX11_init_173 : decode cX11_init 173 = .ok (.aload_n 0, 1) := by decide +kernel
theorem dX11_init_174 : decode cX11_init 174 = .ok (.sipush 620, 3) := by decide +kernel
theorem dX11_init_177 : decode cX11_init 177 = .ok (.newarray .int, 2) := by decide +kernel
theorem dX11_init_179 : decode cX11_init 179 = .ok (.putfield 76, 3) := by decide +kernel
theorem dX11_init_182 : decode cX11_init 182 = .ok (.aload_n 0, 1) := by decide +kernel
theorem dX11_init_183 : decode cX11_init 183 = .ok (.sipush 620, 3) := by decide +kernel
theorem dX11_init_186 : decode cX11_init 186 = .ok (.newarray .int, 2) := by decide +kernel
theorem dX11_init_188 : decode cX11_init 188 = .ok (.putfield 79, 3) := by decide +kernel
theorem dX11_init_191 : decode cX11_init 191 = .ok (.aload_n 0, 1) := by decide +kernel
theorem dX11_init_192 : decode cX11_init 192 = .ok (.sipush 620, 3) := by decide +kernel
theorem dX11_init_195 : decode cX11_init 195 = .ok (.newarray .int, 2) := by decide +kernel
theorem dX11_init_197 : decode cX11_init 197 = .ok (.putfield 82, 3) := by decide +kernel
theorem dX11_init_200 : decode cX11_init 200 = .ok (.aload_n 0, 1) := by decide +kernel
theorem dX11_init_201 : decode cX11_init 201 = .ok (.sipush 620, 3) := by decide +kernel
theorem dX11_init_204 : decode cX11_init 204 = .ok (.newarray .long, 2) := by decide +kernel
theorem dX11_init_206 : decode cX11_init 206 = .ok (.putfield 85, 3) := by decide +kernel
theorem dX11_init_209 : decode cX11_init 209 = .ok (.aload_n 0, 1) := by decide +kernel
theorem dX11_init_210 : decode cX11_init 210 = .ok (.sipush 1201, 3) := by decide +kernel
theorem dX11_init_213 : decode cX11_init 213 = .ok (.newarray .byte, 2) := by decide +kernel
theorem dX11_init_215 : decode cX11_init 215 = .ok (.putfield 88, 3) := by decide +kernel
theorem dX11_init_218 : decode cX11_init 218 = .ok (.return_, 1) := by decide +kernel
theorem dX12_init_0 : decode cX12_init 0 = .ok (.aload_n 0, 1) := by decide +kernel
theorem dX12_init_1 : decode cX12_init 1 = .ok (.invokespecial 3, 3) := by decide +kernel
theorem dX12_init_4 : decode cX12_init 4 = .ok (.aload_n 0, 1) := by decide +kernel
theorem dX12_init_5 : decode cX12_init 5 = .ok (.bipush 60, 2) := by decide +kernel
theorem dX12_init_7 : decode cX12_init 7 = .ok (.newarray .int, 2) := by decide +kernel
theorem dX12_init_9 : decode cX12_init 9 = .ok (.putfield 9, 3) := by decide +kernel
theorem dX12_init_12 : decode cX12_init 12 = .ok (.aload_n 0, 1) := by decide +kernel
theorem dX12_init_13 : decode cX12_init 13 = .ok (.sipush 1600, 3) := by decide +kernel
theorem dX12_init_16 : decode cX12_init 16 = .ok (.newarray .int, 2) := by decide +kernel
theorem dX12_init_18 : decode cX12_init 18 = .ok (.putfield 15, 3) := by decide +kernel
theorem dX12_init_21 : decode cX12_init 21 = .ok (.aload_n 0, 1) := by decide +kernel
theorem dX12_init_22 : decode cX12_init 22 = .ok (.bipush 64, 2) := by decide +kernel
theorem dX12_init_24 : decode cX12_init 24 = .ok (.newarray .int, 2) := by decide +kernel
theorem dX12_init_26 : decode cX12_init 26 = .ok (.putfield 18, 3) := by decide +kernel
theorem dX12_init_29 : decode cX12_init 29 = .ok (.return_, 1) := by decide +kernel
theorem dX13_init_0 : decode cX13_init 0 = .ok (.aload_n 0, 1) := by decide +kernel
theorem dX13_init_1 : decode cX13_init 1 = .ok (.aconst_null, 1) := by decide +kernel
theorem dX13_init_2 : decode cX13_init 2 = .ok (.aconst_null, 1) := by decide +kernel
theorem dX13_init_3 : decode cX13_init 3 = .ok (.iconst 0, 1) := by decide +kernel
theorem dX13_init_4 : decode cX13_init 4 = .ok (.iconst 0, 1) := by decide +kernel
theorem dX13_init_5 : decode cX13_init 5 = .ok (.invokespecial 1, 3) := by decide +kernel
theorem dX13_init_8 : decode cX13_init 8 = .ok (.return_, 1) := by decide +kernel
theorem dX14_init_0 : decode cX14_init 0 = .ok (.aload_n 0, 1) := by decide +kernel
theorem dX14_init_1 : decode cX14_init 1 = .ok (.invokespecial 1, 3) := by decide +kernel
theorem dX14_init_4 : decode cX14_init 4 = .ok (.aload_n 0, 1) := by decide +kernel
theorem dX14_init_5 : decode cX14_init 5 = .ok (.iconst (-1), 1) := by decide +kernel
theorem dX14_init_6 : decode cX14_init 6 = .ok (.putfield 9, 3) := by decide +kernel
theorem dX14_init_9 : decode cX14_init 9 = .ok (.aload_n 0, 1) := by decide +kernel
theorem dX14_init_10 : decode cX14_init 10 = .ok (.new 13, 3) := by decide +kernel
theorem dX14_init_13 : decode cX14_init 13 = .ok (.dup, 1) := by decide +kernel
theorem dX14_init_14 : decode cX14_init 14 = .ok (.invokespecial 15, 3) := by decide +kernel
theorem dX14_init_17 : decode cX14_init 17 = .ok (.putfield 16, 3) := by decide +kernel
theorem dX14_init_20 : decode cX14_init 20 = .ok (.aload_n 0, 1) := by decide +kernel
theorem dX14_init_21 : decode cX14_init 21 = .ok (.new 13, 3) := by decide +kernel
theorem dX14_init_24 : decode cX14_init 24 = .ok (.dup, 1) := by decide +kernel
theorem dX14_init_25 : decode cX14_init 25 = .ok (.invokespecial 15, 3) := by decide +kernel
theorem dX14_init_28 : decode cX14_init 28 = .ok (.putfield 20, 3) := by decide +kernel
theorem dX14_init_31 : decode cX14_init 31 = .ok (.aload_n 0, 1) := by decide +kernel
theorem dX14_init_32 : decode cX14_init 32 = .ok (.new 13, 3) := by decide +kernel
theorem dX14_init_35 : decode cX14_init 35 = .ok (.dup, 1) := by decide +kernel
theorem dX14_init_36 : decode cX14_init 36 = .ok (.invokespecial 15, 3) := by decide +kernel
theorem dX14_init_39 : decode cX14_init 39 = .ok (.putfield 23, 3) := by decide +kernel
theorem dX14_init_42 : decode cX14_init 42 = .ok (.aload_n 0, 1) := by decide +kernel
theorem dX14_init_43 : decode cX14_init 43 = .ok (.new 26, 3) := by decide +kernel
theorem dX14_init_46 : decode cX14_init 46 = .ok (.dup, 1) := by decide +kernel
theorem dX14_init_47 : decode cX14_init 47 = .ok (.invokespecial 28, 3) := by decide +kernel
theorem dX14_init_50 : decode cX14_init 50 = .ok (.putfield 29, 3) := by decide +kernel
theorem dX14_init_53 : decode cX14_init 53 = .ok (.aload_n 0, 1) := by decide +kernel
theorem dX14_init_54 : decode cX14_init 54 = .ok (.sipush 600, 3) := by decide +kernel
theorem dX14_init_57 : decode cX14_init 57 = .ok (.newarray .byte, 2) := by decide +kernel
theorem dX14_init_59 : decode cX14_init 59 = .ok (.putfield 33, 3) := by decide +kernel
theorem dX14_init_62 : decode cX14_init 62 = .ok (.aload_n 0, 1) := by decide +kernel
theorem dX14_init_63 : decode cX14_init 63 = .ok (.new 37, 3) := by decide +kernel
theorem dX14_init_66 : decode cX14_init 66 = .ok (.dup, 1) := by decide +kernel
theorem dX14_init_67 : decode cX14_init 67 = .ok (.invokespecial 39, 3) := by decide +kernel
theorem dX14_init_70 : decode cX14_init 70 = .ok (.putfield 40, 3) := by decide +kernel
theorem dX14_init_73 : decode cX14_init 73 = .ok (.aload_n 0, 1) := by decide +kernel
theorem dX14_init_74 : decode cX14_init 74 = .ok (.new 37, 3) := by decide +kernel
theorem dX14_init_77 : decode cX14_init 77 = .ok (.dup, 1) := by decide +kernel
theorem dX14_init_78 : decode cX14_init 78 = .ok (.invokespecial 39, 3) := by decide +kernel
theorem dX14_init_81 : decode cX14_init 81 = .ok (.putfield 44, 3) := by decide +kernel
theorem dX14_init_84 : decode cX14_init 84 = .ok (.aload_n 0, 1) := by decide +kernel
theorem dX14_init_85 : decode cX14_init 85 = .ok (.sipush 2000, 3) := by decide +kernel
theorem dX14_init_88 : decode cX14_init 88 = .ok (.newarray .int, 2) := by decide +kernel
theorem dX14_init_90 : decode cX14_init 90 = .ok (.putfield 47, 3) := by decide +kernel
theorem dX14_init_93 : decode cX14_init 93 = .ok (.aload_n 0, 1) := by decide +kernel
theorem dX14_init_94 : decode cX14_init 94 = .ok (.bipush 60, 2) := by decide +kernel
theorem dX14_init_96 : decode cX14_init 96 = .ok (.newarray .int, 2) := by decide +kernel
theorem dX14_init_98 : decode cX14_init 98 = .ok (.putfield 51, 3) := by decide +kernel
theorem dX14_init_101 : decode cX14_init 101 = .ok (.aload_n 0, 1) := by decide +kernel
theorem dX14_init_102 : decode cX14_init 102 = .ok (.sipush 1024, 3) := by decide +kernel
theorem dX14_init_105 : decode cX14_init 105 = .ok (.newarray .int, 2) := by decide +kernel
theorem dX14_init_107 : decode cX14_init 107 = .ok (.putfield 54, 3) := by decide +kernel
theorem dX14_init_110 : decode cX14_init 110 = .ok (.aload_n 0, 1) := by decide +kernel
theorem dX14_init_111 : decode cX14_init 111 = .ok (.bipush 12, 2) := by decide +kernel
theorem dX14_init_113 : decode cX14_init 113 = .ok (.newarray .int, 2) := by decide +kernel
theorem dX14_init_115 : decode cX14_init 115 = .ok (.putfield 57, 3) := by decide +kernel
theorem dX14_init_118 : decode cX14_init 118 = .ok (.aload_n 0, 1) := by decide +kernel
theorem dX14_init_119 : decode cX14_init 119 = .ok (.bipush 12, 2) := by decide +kernel
theorem dX14_init_121 : decode cX14_init 121 = .ok (.newarray .int, 2) := by decide +kernel
theorem dX14_init_123 : decode cX14_init 123 = .ok (.putfield 60, 3) := by decide +kernel
theorem dX14_init_126 : decode cX14_init 126 = .ok (.aload_n 0, 1) := by decide +kernel
theorem dX14_init_127 : decode cX14_init 127 = .ok (.bipush 12, 2) := by decide +kernel
theorem dX14_init_129 : decode cX14_init 129 = .ok (.newarray .int, 2) := by decide +kernel
theorem dX14_init_131 : decode cX14_init 131 = .ok (.putfield 63, 3) := by decide +kernel
theorem dX14_init_134 : decode cX14_init 134 = .ok (.aload_n 0, 1) := by decide +kernel
theorem dX14_init_135 : decode cX14_init 135 = .ok (.bipush 12, 2) := by decide +kernel
theorem dX14_init_137 : decode cX14_init 137 = .ok (.newarray .int, 2) := by decide +kernel
theorem dX14_init_139 : decode cX14_init 139 = .ok (.putfield 66, 3) := by decide +kernel
theorem dX14_init_142 : decode cX14_init 142 = .ok (.aload_n 0, 1) := by decide +kernel
theorem dX14_init_143 : decode cX14_init 143 = .ok (.bipush 12, 2) := by decide +kernel
theorem dX14_init_145 : decode cX14_init 145 = .ok (.newarray .int, 2) := by decide +kernel
theorem dX14_init_147 : decode cX14_init 147 = .ok (.putfield 69, 3) := by decide +kernel
theorem dX14_init_150 : decode cX14_init 150 = .ok (.aload_n 0, 1) := by decide +kernel
theorem dX14_init_151 : decode cX14_init 151 = .ok (.bipush 12, 2) := by decide +kernel
theorem dX14_init_153 : decode cX14_init 153 = .ok (.newarray .long, 2) := by decide +kernel
theorem dX14_init_155 : decode cX14_init 155 = .ok (.putfield 72, 3) := by decide +kernel
theorem dX14_init_158 : decode cX14_init 158 = .ok (.return_, 1) := by decide +kernel
theorem dX14_thrown_0 : decode cX14_thrown 0 = .ok (.aload_n 0, 1) := by decide +kernel
theorem dX14_thrown_1 : decode cX14_thrown 1 = .ok (.getfield 76, 3) := by decide +kernel
theorem dX14_thrown_4 : decode cX14_thrown 4 = .ok (.ireturn, 1) := by decide +kernel
theorem dX14_refused_0 : decode cX14_refused 0 = .ok (.aload_n 0, 1) := by decide +kernel
theorem dX14_refused_1 : decode cX14_refused 1 = .ok (.iload_n 1, 1) := by decide +kernel
theorem dX14_refused_2 : decode cX14_refused 2 = .ok (.putfield 79, 3) := by decide +kernel
theorem dX14_refused_5 : decode cX14_refused 5 = .ok (.aload_n 0, 1) := by decide +kernel
theorem dX14_refused_6 : decode cX14_refused 6 = .ok (.iconst (-1), 1) := by decide +kernel
theorem dX14_refused_7 : decode cX14_refused 7 = .ok (.putfield 9, 3) := by decide +kernel
theorem dX14_refused_10 : decode cX14_refused 10 = .ok (.iconst (-1), 1) := by decide +kernel
theorem dX14_refused_11 : decode cX14_refused 11 = .ok (.ireturn, 1) := by decide +kernel
theorem dX14_done_0 : decode cX14_done 0 = .ok (.aload_n 0, 1) := by decide +kernel
theorem dX14_done_1 : decode cX14_done 1 = .ok (.iconst 0, 1) := by decide +kernel
theorem dX14_done_2 : decode cX14_done 2 = .ok (.putfield 79, 3) := by decide +kernel
theorem dX14_done_5 : decode cX14_done 5 = .ok (.aload_n 0, 1) := by decide +kernel
theorem dX14_done_6 : decode cX14_done 6 = .ok (.iconst (-1), 1) := by decide +kernel
theorem dX14_done_7 : decode cX14_done 7 = .ok (.putfield 9, 3) := by decide +kernel
theorem dX14_done_10 : decode cX14_done 10 = .ok (.iload_n 1, 1) := by decide +kernel
theorem dX14_done_11 : decode cX14_done 11 = .ok (.ireturn, 1) := by decide +kernel
theorem dX14_stop_0 : decode cX14_stop 0 = .ok (.aload_n 0, 1) := by decide +kernel
theorem dX14_stop_1 : decode cX14_stop 1 = .ok (.getfield 29, 3) := by decide +kernel
theorem dX14_stop_4 : decode cX14_stop 4 = .ok (.iload_n 1, 1) := by decide +kernel
theorem dX14_stop_5 : decode cX14_stop 5 = .ok (.putfield 82, 3) := by decide +kernel
theorem dX14_stop_8 : decode cX14_stop 8 = .ok (.aload_n 0, 1) := by decide +kernel
theorem dX14_stop_9 : decode cX14_stop 9 = .ok (.getfield 29, 3) := by decide +kernel
theorem dX14_stop_12 : decode cX14_stop 12 = .ok (.iload_n 2, 1) := by decide +kernel
theorem dX14_stop_13 : decode cX14_stop 13 = .ok (.putfield 85, 3) := by decide +kernel
theorem dX14_stop_16 : decode cX14_stop 16 = .ok (.aload_n 0, 1) := by decide +kernel
theorem dX14_stop_17 : decode cX14_stop 17 = .ok (.getfield 29, 3) := by decide +kernel
theorem dX14_stop_20 : decode cX14_stop 20 = .ok (.areturn, 1) := by decide +kernel
theorem dX14_byteAt_0 : decode cX14_byteAt 0 = .ok (.iload_n 1, 1) := by decide +kernel
theorem dX14_byteAt_1 : decode cX14_byteAt 1 = .ok (.aload_n 0, 1) := by decide +kernel
theorem dX14_byteAt_2 : decode cX14_byteAt 2 = .ok (.getfield 88, 3) := by decide +kernel
theorem dX14_byteAt_5 : decode cX14_byteAt 5 = .ok (.if_icmp .ge 16, 3) := by decide +kernel
theorem dX14_byteAt_8 : decode cX14_byteAt 8 = .ok (.aload_n 0, 1) := by decide +kernel
theorem dX14_byteAt_9 : decode cX14_byteAt 9 = .ok (.getfield 33, 3) := by decide +kernel
theorem dX14_byteAt_12 : decode cX14_byteAt 12 = .ok (.iload_n 1, 1) := by decide +kernel
theorem dX14_byteAt_13 : decode cX14_byteAt 13 = .ok (.baload, 1) := by decide +kernel
theorem dX14_byteAt_14 : decode cX14_byteAt 14 = .ok (.sipush 255, 3) := by decide +kernel
theorem dX14_byteAt_17 : decode cX14_byteAt 17 = .ok (.iand, 1) := by decide +kernel
theorem dX14_byteAt_18 : decode cX14_byteAt 18 = .ok (.goto 4, 3) := by decide +kernel
theorem dX14_byteAt_21 : decode cX14_byteAt 21 = .ok (.iconst (-1), 1) := by decide +kernel
theorem dX14_byteAt_22 : decode cX14_byteAt 22 = .ok (.ireturn, 1) := by decide +kernel
theorem dX14_next_0 : decode cX14_next 0 = .ok (.aload_n 0, 1) := by decide +kernel
theorem dX14_next_1 : decode cX14_next 1 = .ok (.aload_n 0, 1) := by decide +kernel
theorem dX14_next_2 : decode cX14_next 2 = .ok (.getfield 103, 3) := by decide +kernel
theorem dX14_next_5 : decode cX14_next 5 = .ok (.invokevirtual 106, 3) := by decide +kernel
theorem dX14_next_8 : decode cX14_next 8 = .ok (.bipush 32, 2) := by decide +kernel
theorem dX14_next_10 : decode cX14_next 10 = .ok (.if_icmp .eq 16, 3) := by decide +kernel
theorem dX14_next_13 : decode cX14_next 13 = .ok (.aload_n 0, 1) := by decide +kernel
theorem dX14_next_14 : decode cX14_next 14 = .ok (.aload_n 0, 1) := by decide +kernel
theorem dX14_next_15 : decode cX14_next 15 = .ok (.getfield 103, 3) := by decide +kernel
theorem dX14_next_18 : decode cX14_next 18 = .ok (.invokevirtual 106, 3) := by decide +kernel
theorem dX14_next_21 : decode cX14_next 21 = .ok (.bipush 10, 2) := by decide +kernel
theorem dX14_next_23 : decode cX14_next 23 = .ok (.if_icmp .ne 16, 3) := by decide +kernel
theorem dX14_next_26 : decode cX14_next 26 = .ok (.aload_n 0, 1) := by decide +kernel
theorem dX14_next_27 : decode cX14_next 27 = .ok (.dup, 1) := by decide +kernel
theorem dX14_next_28 : decode cX14_next 28 = .ok (.getfield 103, 3) := by decide +kernel
theorem dX14_next_31 : decode cX14_next 31 = .ok (.iconst 1, 1) := by decide +kernel
theorem dX14_next_32 : decode cX14_next 32 = .ok (.iadd, 1) := by decide +kernel
theorem dX14_next_33 : decode cX14_next 33 = .ok (.putfield 103, 3) := by decide +kernel
theorem dX14_next_36 : decode cX14_next 36 = .ok (.goto (-36), 3) := by decide +kernel
theorem dX14_next_39 : decode cX14_next 39 = .ok (.aload_n 0, 1) := by decide +kernel
theorem dX14_next_40 : decode cX14_next 40 = .ok (.aload_n 0, 1) := by decide +kernel
theorem dX14_next_41 : decode cX14_next 41 = .ok (.getfield 103, 3) := by decide +kernel
theorem dX14_next_44 : decode cX14_next 44 = .ok (.putfield 110, 3) := by decide +kernel
theorem dX14_next_47 : decode cX14_next 47 = .ok (.aload_n 0, 1) := by decide +kernel
theorem dX14_next_48 : decode cX14_next 48 = .ok (.iconst 0, 1) := by decide +kernel
theorem dX14_next_49 : decode cX14_next 49 = .ok (.putfield 111, 3) := by decide +kernel
theorem dX14_next_52 : decode cX14_next 52 = .ok (.aload_n 0, 1) := by decide +kernel
theorem dX14_next_53 : decode cX14_next 53 = .ok (.iconst 0, 1) := by decide +kernel
theorem dX14_next_54 : decode cX14_next 54 = .ok (.putfield 114, 3) := by decide +kernel
theorem dX14_next_57 : decode cX14_next 57 = .ok (.aload_n 0, 1) := by decide +kernel
theorem dX14_next_58 : decode cX14_next 58 = .ok (.aload_n 0, 1) := by decide +kernel
theorem dX14_next_59 : decode cX14_next 59 = .ok (.getfield 103, 3) := by decide +kernel
theorem dX14_next_62 : decode cX14_next 62 = .ok (.invokevirtual 106, 3) := by decide +kernel
theorem dX14_next_65 : decode cX14_next 65 = .ok (.istore_n 1, 1) := by decide +kernel
theorem dX14_next_66 : decode cX14_next 66 = .ok (.iconst 0, 1) := by decide +kernel
theorem dX14_next_67 : decode cX14_next 67 = .ok (.istore_n 2, 1) := by decide +kernel
theorem dX14_next_68 : decode cX14_next 68 = .ok (.iload_n 1, 1) := by decide +kernel
theorem dX14_next_69 : decode cX14_next 69 = .ok (.iconst (-1), 1) := by decide +kernel
theorem dX14_next_70 : decode cX14_next 70 = .ok (.if_icmp .ne 11, 3) := by decide +kernel
theorem dX14_next_73 : decode cX14_next 73 = .ok (.aload_n 0, 1) := by decide +kernel
theorem dX14_next_74 : decode cX14_next 74 = .ok (.iconst 1, 1) := by decide +kernel
theorem dX14_next_75 : decode cX14_next 75 = .ok (.putfield 111, 3) := by decide +kernel
theorem dX14_next_78 : decode cX14_next 78 = .ok (.goto 208, 3) := by decide +kernel
theorem dX14_next_81 : decode cX14_next 81 = .ok (.iload_n 1, 1) := by decide +kernel
theorem dX14_next_82 : decode cX14_next 82 = .ok (.invokestatic 117, 3) := by decide +kernel
theorem dX14_next_85 : decode cX14_next 85 = .ok (.ifCond .eq 90, 3) := by decide +kernel
theorem dX14_next_88 : decode cX14_next 88 = .ok (.aload_n 0, 1) := by decide +kernel
theorem dX14_next_89 : decode cX14_next 89 = .ok (.lconst 0, 1) := by decide +kernel
theorem dX14_next_90 : decode cX14_next 90 = .ok (.putfield 121, 3) := by decide +kernel
theorem dX14_next_93 : decode cX14_next 93 = .ok (.aload_n 0, 1) := by decide +kernel
theorem dX14_next_94 : decode cX14_next 94 = .ok (.aload_n 0, 1) := by decide +kernel
theorem dX14_next_95 : decode cX14_next 95 = .ok (.getfield 103, 3) := by decide +kernel
theorem dX14_next_98 : decode cX14_next 98 = .ok (.invokevirtual 106, 3) := by decide +kernel
theorem dX14_next_101 : decode cX14_next 101 = .ok (.invokestatic 117, 3) := by decide +kernel
theorem dX14_next_104 : decode cX14_next 104 = .ok (.ifCond .eq 52, 3) := by decide +kernel
theorem dX14_next_107 : decode cX14_next 107 = .ok (.iload_n 2, 1) := by decide +kernel
theorem dX14_next_108 : decode cX14_next 108 = .ok (.bipush 8, 2) := by decide +kernel
theorem dX14_next_110 : decode cX14_next 110 = .ok (.if_icmp .ge 30, 3) := by decide +kernel
theorem dX14_next_113 : decode cX14_next 113 = .ok (.aload_n 0, 1) := by decide +kernel
theorem dX14_next_114 : decode cX14_next 114 = .ok (.ldc2_w 97, 3) := by decide +kernel
theorem dX14_next_117 : decode cX14_next 117 = .ok (.aload_n 0, 1) := by decide +kernel
theorem dX14_next_118 : decode cX14_next 118 = .ok (.getfield 121, 3) := by decide +kernel
theorem dX14_next_121 : decode cX14_next 121 = .ok (.lmul, 1) := by decide +kernel
theorem dX14_next_122 : decode cX14_next 122 = .ok (.aload_n 0, 1) := by decide +kernel
theorem dX14_next_123 : decode cX14_next 123 = .ok (.aload_n 0, 1) := by decide +kernel
theorem dX14_next_124 : decode cX14_next 124 = .ok (.getfield 103, 3) := by decide +kernel
theorem dX14_next_127 : decode cX14_next 127 = .ok (.invokevirtual 106, 3) := by decide +kernel
theorem dX14_next_130 : decode cX14_next 130 = .ok (.bipush 97, 2) := by decide +kernel
theorem dX14_next_132 : decode cX14_next 132 = .ok (.isub, 1) := by decide +kernel
theorem dX14_next_133 : decode cX14_next 133 = .ok (.iconst 1, 1) := by decide +kernel
theorem dX14_next_134 : decode cX14_next 134 = .ok (.iadd, 1) := by decide +kernel
theorem dX14_next_135 : decode cX14_next 135 = .ok (.i2l, 1) := by decide +kernel
theorem dX14_next_136 : decode cX14_next 136 = .ok (.ladd, 1) := by decide +kernel
theorem dX14_next_137 : decode cX14_next 137 = .ok (.putfield 121, 3) := by decide +kernel
theorem dX14_next_140 : decode cX14_next 140 = .ok (.iinc 2 1, 3) := by decide +kernel
theorem dX14_next_143 : decode cX14_next 143 = .ok (.aload_n 0, 1) := by decide +kernel
theorem dX14_next_144 : decode cX14_next 144 = .ok (.dup, 1) := by decide +kernel
theorem dX14_next_145 : decode cX14_next 145 = .ok (.getfield 103, 3) := by decide +kernel
theorem dX14_next_148 : decode cX14_next 148 = .ok (.iconst 1, 1) := by decide +kernel
theorem dX14_next_149 : decode cX14_next 149 = .ok (.iadd, 1) := by decide +kernel
theorem dX14_next_150 : decode cX14_next 150 = .ok (.putfield 103, 3) := by decide +kernel
theorem dX14_next_153 : decode cX14_next 153 = .ok (.goto (-60), 3) := by decide +kernel
theorem dX14_next_156 : decode cX14_next 156 = .ok (.aload_n 0, 1) := by decide +kernel
theorem dX14_next_157 : decode cX14_next 157 = .ok (.iload_n 2, 1) := by decide +kernel
theorem dX14_next_158 : decode cX14_next 158 = .ok (.putfield 125, 3) := by decide +kernel
theorem dX14_next_161 : decode cX14_next 161 = .ok (.iload_n 2, 1) := by decide +kernel
theorem dX14_next_162 : decode cX14_next 162 = .ok (.bipush 8, 2) := by decide +kernel
theorem dX14_next_164 : decode cX14_next 164 = .ok (.if_icmp .gt 122, 3) := by decide +kernel
theorem dX14_next_167 : decode cX14_next 167 = .ok (.aload_n 0, 1) := by decide +kernel
theorem dX14_next_168 : decode cX14_next 168 = .ok (.iconst 2, 1) := by decide +kernel
theorem dX14_next_169 : decode cX14_next 169 = .ok (.putfield 111, 3) := by decide +kernel
theorem dX14_next_172 : decode cX14_next 172 = .ok (.goto 114, 3) := by decide +kernel
theorem dX14_next_175 : decode cX14_next 175 = .ok (.iload_n 1, 1) := by decide +kernel
theorem dX14_next_176 : decode cX14_next 176 = .ok (.invokestatic 128, 3) := by decide +kernel
theorem dX14_next_179 : decode cX14_next 179 = .ok (.ifCond .eq 80, 3) := by decide +kernel
theorem dX14_next_182 : decode cX14_next 182 = .ok (.aload_n 0, 1) := by decide +kernel
theorem dX14_next_183 : decode cX14_next 183 = .ok (.iconst 0, 1) := by decide +kernel
theorem dX14_next_184 : decode cX14_next 184 = .ok (.putfield 131, 3) := by decide +kernel
theorem dX14_next_187 : decode cX14_next 187 = .ok (.aload_n 0, 1) := by decide +kernel
theorem dX14_next_188 : decode cX14_next 188 = .ok (.aload_n 0, 1) := by decide +kernel
theorem dX14_next_189 : decode cX14_next 189 = .ok (.getfield 103, 3) := by decide +kernel
theorem dX14_next_192 : decode cX14_next 192 = .ok (.invokevirtual 106, 3) := by decide +kernel
theorem dX14_next_195 : decode cX14_next 195 = .ok (.invokestatic 128, 3) := by decide +kernel
theorem dX14_next_198 : decode cX14_next 198 = .ok (.ifCond .eq 47, 3) := by decide +kernel
theorem dX14_next_201 : decode cX14_next 201 = .ok (.iload_n 2, 1) := by decide +kernel
theorem dX14_next_202 : decode cX14_next 202 = .ok (.iconst 5, 1) := by decide +kernel
theorem dX14_next_203 : decode cX14_next 203 = .ok (.if_icmp .ge 26, 3) := by decide +kernel
theorem dX14_next_206 : decode cX14_next 206 = .ok (.aload_n 0, 1) := by decide +kernel
theorem dX14_next_207 : decode cX14_next 207 = .ok (.bipush 10, 2) := by decide +kernel
theorem dX14_next_209 : decode cX14_next 209 = .ok (.aload_n 0, 1) := by decide +kernel
theorem dX14_next_210 : decode cX14_next 210 = .ok (.getfield 131, 3) := by decide +kernel
theorem dX14_next_213 : decode cX14_next 213 = .ok (.imul, 1) := by decide +kernel
theorem dX14_next_214 : decode cX14_next 214 = .ok (.aload_n 0, 1) := by decide +kernel
theorem dX14_next_215 : decode cX14_next 215 = .ok (.aload_n 0, 1) := by decide +kernel
theorem dX14_next_216 : decode cX14_next 216 = .ok (.getfield 103, 3) := by decide +kernel
theorem dX14_next_219 : decode cX14_next 219 = .ok (.invokevirtual 106, 3) := by decide +kernel
theorem dX14_next_222 : decode cX14_next 222 = .ok (.iadd, 1) := by decide +kernel
theorem dX14_next_223 : decode cX14_next 223 = .ok (.bipush 48, 2) := by decide +kernel
theorem dX14_next_225 : decode cX14_next 225 = .ok (.isub, 1) := by decide +kernel
theorem dX14_next_226 : decode cX14_next 226 = .ok (.putfield 131, 3) := by decide +kernel
theorem dX14_next_229 : decode cX14_next 229 = .ok (.iinc 2 1, 3) := by decide +kernel
theorem dX14_next_232 : decode cX14_next 232 = .ok (.aload_n 0, 1) := by decide +kernel
theorem dX14_next_233 : decode cX14_next 233 = .ok (.dup, 1) := by decide +kernel
theorem dX14_next_234 : decode cX14_next 234 = .ok (.getfield 103, 3) := by decide +kernel
theorem dX14_next_237 : decode cX14_next 237 = .ok (.iconst 1, 1) := by decide +kernel
theorem dX14_next_238 : decode cX14_next 238 = .ok (.iadd, 1) := by decide +kernel
theorem dX14_next_239 : decode cX14_next 239 = .ok (.putfield 103, 3) := by decide +kernel
theorem dX14_next_242 : decode cX14_next 242 = .ok (.goto (-55), 3) := by decide +kernel
theorem dX14_next_245 : decode cX14_next 245 = .ok (.iload_n 2, 1) := by decide +kernel
theorem dX14_next_246 : decode cX14_next 246 = .ok (.bipush 6, 2) := by decide +kernel
theorem dX14_next_248 : decode cX14_next 248 = .ok (.if_icmp .ge 38, 3) := by decide +kernel
theorem dX14_next_251 : decode cX14_next 251 = .ok (.aload_n 0, 1) := by decide +kernel
theorem dX14_next_252 : decode cX14_next 252 = .ok (.iconst 3, 1) := by decide +kernel
theorem dX14_next_253 : decode cX14_next 253 = .ok (.putfield 111, 3) := by decide +kernel
theorem dX14_next_256 : decode cX14_next 256 = .ok (.goto 30, 3) := by decide +kernel
theorem dX14_next_259 : decode cX14_next 259 = .ok (.iload_n 1, 1) := by decide +kernel
theorem dX14_next_260 : decode cX14_next 260 = .ok (.invokestatic 134, 3) := by decide +kernel
theorem dX14_next_263 : decode cX14_next 263 = .ok (.ifCond .eq 23, 3) := by decide +kernel
theorem dX14_next_266 : decode cX14_next 266 = .ok (.aload_n 0, 1) := by decide +kernel
theorem dX14_next_267 : decode cX14_next 267 = .ok (.iconst 4, 1) := by decide +kernel
theorem dX14_next_268 : decode cX14_next 268 = .ok (.putfield 111, 3) := by decide +kernel
theorem dX14_next_271 : decode cX14_next 271 = .ok (.aload_n 0, 1) := by decide +kernel
theorem dX14_next_272 : decode cX14_next 272 = .ok (.iload_n 1, 1) := by decide +kernel
theorem dX14_next_273 : decode cX14_next 273 = .ok (.putfield 114, 3) := by decide +kernel
theorem dX14_next_276 : decode cX14_next 276 = .ok (.aload_n 0, 1) := by decide +kernel
theorem dX14_next_277 : decode cX14_next 277 = .ok (.dup, 1) := by decide +kernel
theorem dX14_next_278 : decode cX14_next 278 = .ok (.getfield 103, 3) := by decide +kernel
theorem dX14_next_281 : decode cX14_next 281 = .ok (.iconst 1, 1) := by decide +kernel
theorem dX14_next_282 : decode cX14_next 282 = .ok (.iadd, 1) := by decide +kernel
theorem dX14_next_283 : decode cX14_next 283 = .ok (.putfield 103, 3) := by decide +kernel
theorem dX14_next_286 : decode cX14_next 286 = .ok (.return_, 1) := by decide +kernel
theorem dX14_isWord_0 : decode cX14_isWord 0 = .ok (.aload_n 0, 1) := by decide +kernel
theorem dX14_isWord_1 : decode cX14_isWord 1 = .ok (.getfield 111, 3) := by decide +kernel
theorem dX14_isWord_4 : decode cX14_isWord 4 = .ok (.iconst 2, 1) := by decide +kernel
theorem dX14_isWord_5 : decode cX14_isWord 5 = .ok (.if_icmp .ne 19, 3) := by decide +kernel
theorem dX14_isWord_8 : decode cX14_isWord 8 = .ok (.aload_n 0, 1) := by decide +kernel
theorem dX14_isWord_9 : decode cX14_isWord 9 = .ok (.getfield 121, 3) := by decide +kernel
theorem dX14_isWord_12 : decode cX14_isWord 12 = .ok (.aload_n 1, 1) := by decide +kernel
theorem dX14_isWord_13 : decode cX14_isWord 13 = .ok (.invokestatic 137, 3) := by decide +kernel
theorem dX14_isWord_16 : decode cX14_isWord 16 = .ok (.lcmp, 1) := by decide +kernel
theorem dX14_isWord_17 : decode cX14_isWord 17 = .ok (.ifCond .ne 7, 3) := by decide +kernel
theorem dX14_isWord_20 : decode cX14_isWord 20 = .ok (.iconst 1, 1) := by decide +kernel
theorem dX14_isWord_21 : decode cX14_isWord 21 = .ok (.goto 4, 3) := by decide +kernel
theorem dX14_isWord_24 : decode cX14_isWord 24 = .ok (.iconst 0, 1) := by decide +kernel
theorem dX14_isWord_25 : decode cX14_isWord 25 = .ok (.ireturn, 1) := by decide +kernel
theorem dX14_reads_0 : decode cX14_reads 0 = .ok (.aload_n 0, 1) := by decide +kernel
theorem dX14_reads_1 : decode cX14_reads 1 = .ok (.getfield 23, 3) := by decide +kernel
theorem dX14_reads_4 : decode cX14_reads 4 = .ok (.iconst 0, 1) := by decide +kernel
theorem dX14_reads_5 : decode cX14_reads 5 = .ok (.putfield 168, 3) := by decide +kernel
theorem dX14_reads_8 : decode cX14_reads 8 = .ok (.aload_n 0, 1) := by decide +kernel
theorem dX14_reads_9 : decode cX14_reads 9 = .ok (.getfield 23, 3) := by decide +kernel
theorem dX14_reads_12 : decode cX14_reads 12 = .ok (.iconst 0, 1) := by decide +kernel
theorem dX14_reads_13 : decode cX14_reads 13 = .ok (.putfield 171, 3) := by decide +kernel
theorem dX14_reads_16 : decode cX14_reads 16 = .ok (.aload_n 0, 1) := by decide +kernel
theorem dX14_reads_17 : decode cX14_reads 17 = .ok (.getfield 23, 3) := by decide +kernel
theorem dX14_reads_20 : decode cX14_reads 20 = .ok (.iconst 0, 1) := by decide +kernel
theorem dX14_reads_21 : decode cX14_reads 21 = .ok (.putfield 174, 3) := by decide +kernel
theorem dX14_reads_24 : decode cX14_reads 24 = .ok (.aload_n 0, 1) := by decide +kernel
theorem dX14_reads_25 : decode cX14_reads 25 = .ok (.iconst 0, 1) := by decide +kernel
theorem dX14_reads_26 : decode cX14_reads 26 = .ok (.putfield 177, 3) := by decide +kernel
theorem dX14_reads_29 : decode cX14_reads 29 = .ok (.aload_n 0, 1) := by decide +kernel
theorem dX14_reads_30 : decode cX14_reads 30 = .ok (.iconst 0, 1) := by decide +kernel
theorem dX14_reads_31 : decode cX14_reads 31 = .ok (.putfield 180, 3) := by decide +kernel
theorem dX14_reads_34 : decode cX14_reads 34 = .ok (.aload_n 0, 1) := by decide +kernel
theorem dX14_reads_35 : decode cX14_reads 35 = .ok (.invokevirtual 147, 3) := by decide +kernel
theorem dX14_reads_38 : decode cX14_reads 38 = .ok (.iconst 1, 1) := by decide +kernel
theorem dX14_reads_39 : decode cX14_reads 39 = .ok (.istore_n 1, 1) := by decide +kernel
theorem dX14_reads_40 : decode cX14_reads 40 = .ok (.iload_n 1, 1) := by decide +kernel
theorem dX14_reads_41 : decode cX14_reads 41 = .ok (.ifCond .eq 24, 3) := by decide +kernel
theorem dX14_reads_44 : decode cX14_reads 44 = .ok (.aload_n 0, 1) := by decide +kernel
theorem dX14_reads_45 : decode cX14_reads 45 = .ok (.invokevirtual 183, 3) := by decide +kernel
theorem dX14_reads_48 : decode cX14_reads 48 = .ok (.aload_n 0, 1) := by decide +kernel
theorem dX14_reads_49 : decode cX14_reads 49 = .ok (.getfield 111, 3) := by decide +kernel
theorem dX14_reads_52 : decode cX14_reads 52 = .ok (.iconst 1, 1) := by decide +kernel
theorem dX14_reads_53 : decode cX14_reads 53 = .ok (.if_icmp .eq 7, 3) := by decide +kernel
theorem dX14_reads_56 : decode cX14_reads 56 = .ok (.iconst 1, 1) := by decide +kernel
theorem dX14_reads_57 : decode cX14_reads 57 = .ok (.goto 4, 3) := by decide +kernel
theorem dX14_reads_60 : decode cX14_reads 60 = .ok (.iconst 0, 1) := by decide +kernel
theorem dX14_reads_61 : decode cX14_reads 61 = .ok (.istore_n 1, 1) := by decide +kernel
theorem dX14_reads_62 : decode cX14_reads 62 = .ok (.goto (-22), 3) := by decide +kernel
theorem dX14_reads_65 : decode cX14_reads 65 = .ok (.iconst (-1), 1) := by decide +kernel
theorem dX14_reads_66 : decode cX14_reads 66 = .ok (.istore_n 2, 1) := by decide +kernel
theorem dX14_reads_67 : decode cX14_reads 67 = .ok (.iconst 0, 1) := by decide +kernel
theorem dX14_reads_68 : decode cX14_reads 68 = .ok (.istore_n 3, 1) := by decide +kernel
theorem dX14_reads_69 : decode cX14_reads 69 = .ok (.iload_n 3, 1) := by decide +kernel
theorem dX14_reads_70 : decode cX14_reads 70 = .ok (.aload_n 0, 1) := by decide +kernel
theorem dX14_reads_71 : decode cX14_reads 71 = .ok (.getfield 23, 3) := by decide +kernel
theorem dX14_reads_74 : decode cX14_reads 74 = .ok (.getfield 174, 3) := by decide +kernel
theorem dX14_reads_77 : decode cX14_reads 77 = .ok (.if_icmp .ge 110, 3) := by decide +kernel
theorem dX14_reads_80 : decode cX14_reads 80 = .ok (.aload_n 0, 1) := by decide +kernel
theorem dX14_reads_81 : decode cX14_reads 81 = .ok (.getfield 23, 3) := by decide +kernel
theorem dX14_reads_84 : decode cX14_reads 84 = .ok (.getfield 186, 3) := by decide +kernel
theorem dX14_reads_87 : decode cX14_reads 87 = .ok (.iload_n 3, 1) := by decide +kernel
theorem dX14_reads_88 : decode cX14_reads 88 = .ok (.iaload, 1) := by decide +kernel
theorem dX14_reads_89 : decode cX14_reads 89 = .ok (.iconst 5, 1) := by decide +kernel
theorem dX14_reads_90 : decode cX14_reads 90 = .ok (.if_icmp .eq 6, 3) := by decide +kernel
theorem dX14_reads_93 : decode cX14_reads 93 = .ok (.goto 88, 3) := by decide +kernel
theorem dX14_reads_96 : decode cX14_reads 96 = .ok (.aload_n 0, 1) := by decide +kernel
theorem dX14_reads_97 : decode cX14_reads 97 = .ok (.getfield 23, 3) := by decide +kernel
theorem dX14_reads_100 : decode cX14_reads 100 = .ok (.aload_n 0, 1) := by decide +kernel
theorem dX14_reads_101 : decode cX14_reads 101 = .ok (.getfield 23, 3) := by decide +kernel
theorem dX14_reads_104 : decode cX14_reads 104 = .ok (.getfield 189, 3) := by decide +kernel
theorem dX14_reads_107 : decode cX14_reads 107 = .ok (.iload_n 3, 1) := by decide +kernel
theorem dX14_reads_108 : decode cX14_reads 108 = .ok (.laload, 1) := by decide +kernel
theorem dX14_reads_109 : decode cX14_reads 109 = .ok (.invokevirtual 192, 3) := by decide +kernel
theorem dX14_reads_112 : decode cX14_reads 112 = .ok (.istore 4, 2) := by decide +kernel
theorem dX14_reads_114 : decode cX14_reads 114 = .ok (.iload 4, 2) := by decide +kernel
theorem dX14_reads_116 : decode cX14_reads 116 = .ok (.iconst (-1), 1) := by decide +kernel
theorem dX14_reads_117 : decode cX14_reads 117 = .ok (.if_icmp .eq 25, 3) := by decide +kernel
theorem dX14_reads_120 : decode cX14_reads 120 = .ok (.aload_n 0, 1) := by decide +kernel
theorem dX14_reads_121 : decode cX14_reads 121 = .ok (.getfield 23, 3) := by decide +kernel
theorem dX14_reads_124 : decode cX14_reads 124 = .ok (.getfield 196, 3) := by decide +kernel
theorem dX14_reads_127 : decode cX14_reads 127 = .ok (.iload 4, 2) := by decide +kernel
theorem dX14_reads_129 : decode cX14_reads 129 = .ok (.iaload, 1) := by decide +kernel
theorem dX14_reads_130 : decode cX14_reads 130 = .ok (.aload_n 0, 1) := by decide +kernel
theorem dX14_reads_131 : decode cX14_reads 131 = .ok (.getfield 23, 3) := by decide +kernel
theorem dX14_reads_134 : decode cX14_reads 134 = .ok (.getfield 199, 3) := by decide +kernel
theorem dX14_reads_137 : decode cX14_reads 137 = .ok (.iload_n 3, 1) := by decide +kernel
theorem dX14_reads_138 : decode cX14_reads 138 = .ok (.iaload, 1) := by decide +kernel
theorem dX14_reads_139 : decode cX14_reads 139 = .ok (.if_icmp .eq 31, 3) := by decide +kernel
theorem dX14_reads_142 : decode cX14_reads 142 = .ok (.iload_n 2, 1) := by decide +kernel
theorem dX14_reads_143 : decode cX14_reads 143 = .ok (.iconst (-1), 1) := by decide +kernel
theorem dX14_reads_144 : decode cX14_reads 144 = .ok (.if_icmp .eq 16, 3) := by decide +kernel
theorem dX14_reads_147 : decode cX14_reads 147 = .ok (.aload_n 0, 1) := by decide +kernel
theorem dX14_reads_148 : decode cX14_reads 148 = .ok (.getfield 23, 3) := by decide +kernel
theorem dX14_reads_151 : decode cX14_reads 151 = .ok (.getfield 202, 3) := by decide +kernel
theorem dX14_reads_154 : decode cX14_reads 154 = .ok (.iload_n 3, 1) := by decide +kernel
theorem dX14_reads_155 : decode cX14_reads 155 = .ok (.iaload, 1) := by decide +kernel
theorem dX14_reads_156 : decode cX14_reads 156 = .ok (.iload_n 2, 1) := by decide +kernel
theorem dX14_reads_157 : decode cX14_reads 157 = .ok (.if_icmp .ge 13, 3) := by decide +kernel
theorem dX14_reads_160 : decode cX14_reads 160 = .ok (.aload_n 0, 1) := by decide +kernel
theorem dX14_reads_161 : decode cX14_reads 161 = .ok (.getfield 23, 3) := by decide +kernel
theorem dX14_reads_164 : decode cX14_reads 164 = .ok (.getfield 202, 3) := by decide +kernel
theorem dX14_reads_167 : decode cX14_reads 167 = .ok (.iload_n 3, 1) := by decide +kernel
theorem dX14_reads_168 : decode cX14_reads 168 = .ok (.iaload, 1) := by decide +kernel
theorem dX14_reads_169 : decode cX14_reads 169 = .ok (.istore_n 2, 1) := by decide +kernel
theorem dX14_reads_170 : decode cX14_reads 170 = .ok (.aload_n 0, 1) := by decide +kernel
theorem dX14_reads_171 : decode cX14_reads 171 = .ok (.getfield 23, 3) := by decide +kernel
theorem dX14_reads_174 : decode cX14_reads 174 = .ok (.getfield 205, 3) := by decide +kernel
theorem dX14_reads_177 : decode cX14_reads 177 = .ok (.iload_n 3, 1) := by decide +kernel
theorem dX14_reads_178 : decode cX14_reads 178 = .ok (.iload 4, 2) := by decide +kernel
theorem dX14_reads_180 : decode cX14_reads 180 = .ok (.iastore, 1) := by decide +kernel
theorem dX14_reads_181 : decode cX14_reads 181 = .ok (.iinc 3 1, 3) := by decide +kernel
theorem dX14_reads_184 : decode cX14_reads 184 = .ok (.goto (-115), 3) := by decide +kernel
theorem dX14_reads_187 : decode cX14_reads 187 = .ok (.iload_n 2, 1) := by decide +kernel
theorem dX14_reads_188 : decode cX14_reads 188 = .ok (.iconst (-1), 1) := by decide +kernel
theorem dX14_reads_189 : decode cX14_reads 189 = .ok (.if_icmp .eq 10, 3) := by decide +kernel
theorem dX14_reads_192 : decode cX14_reads 192 = .ok (.aload_n 0, 1) := by decide +kernel
theorem dX14_reads_193 : decode cX14_reads 193 = .ok (.iconst 4, 1) := by decide +kernel
theorem dX14_reads_194 : decode cX14_reads 194 = .ok (.iload_n 2, 1) := by decide +kernel
theorem dX14_reads_195 : decode cX14_reads 195 = .ok (.invokevirtual 144, 3) := by decide +kernel
theorem dX14_reads_198 : decode cX14_reads 198 = .ok (.athrow, 1) := by decide +kernel
theorem dX14_reads_199 : decode cX14_reads 199 = .ok (.return_, 1) := by decide +kernel
theorem dX14_readFunction_0 : decode cX14_readFunction 0 = .ok (.aload_n 0, 1) := by decide +kernel
theorem dX14_readFunction_1 : decode cX14_readFunction 1 = .ok (.ldc 152, 2) := by decide +kernel
theorem dX14_readFunction_3 : decode cX14_readFunction 3 = .ok (.invokevirtual 154, 3) := by decide +kernel
theorem dX14_readFunction_6 : decode cX14_readFunction 6 = .ok (.ifCond .ne 13, 3) := by decide +kernel
theorem dX14_readFunction_9 : decode cX14_readFunction 9 = .ok (.aload_n 0, 1) := by decide +kernel
theorem dX14_readFunction_10 : decode cX14_readFunction 10 = .ok (.iconst 1, 1) := by decide +kernel
theorem dX14_readFunction_11 : decode cX14_readFunction 11 = .ok (.aload_n 0, 1) := by decide +kernel
theorem dX14_readFunction_12 : decode cX14_readFunction 12 = .ok (.getfield 110, 3) := by decide +kernel
theorem dX14_readFunction_15 : decode cX14_readFunction 15 = .ok (.invokevirtual 144, 3) := by decide +kernel
theorem dX14_readFunction_18 : decode cX14_readFunction 18 = .ok (.athrow, 1) := by decide +kernel
theorem dX14_readFunction_19 : decode cX14_readFunction 19 = .ok (.aload_n 0, 1) := by decide +kernel
theorem dX14_readFunction_20 : decode cX14_readFunction 20 = .ok (.getfield 23, 3) := by decide +kernel
theorem dX14_readFunction_23 : decode cX14_readFunction 23 = .ok (.getfield 168, 3) := by decide +kernel
theorem dX14_readFunction_26 : decode cX14_readFunction 26 = .ok (.bipush 10, 2) := by decide +kernel
theorem dX14_readFunction_28 : decode cX14_readFunction 28 = .ok (.if_icmp .ne 13, 3) := by decide +kernel
theorem dX14_readFunction_31 : decode cX14_readFunction 31 = .ok (.aload_n 0, 1) := by decide +kernel
theorem dX14_readFunction_32 : decode cX14_readFunction 32 = .ok (.iconst 3, 1) := by decide +kernel
theorem dX14_readFunction_33 : decode cX14_readFunction 33 = .ok (.aload_n 0, 1) := by decide +kernel
theorem dX14_readFunction_34 : decode cX14_readFunction 34 = .ok (.getfield 110, 3) := by decide +kernel
theorem dX14_readFunction_37 : decode cX14_readFunction 37 = .ok (.invokevirtual 144, 3) := by decide +kernel
theorem dX14_readFunction_40 : decode cX14_readFunction 40 = .ok (.athrow, 1) := by decide +kernel
theorem dX14_readFunction_41 : decode cX14_readFunction 41 = .ok (.aload_n 0, 1) := by decide +kernel
theorem dX14_readFunction_42 : decode cX14_readFunction 42 = .ok (.getfield 23, 3) := by decide +kernel
theorem dX14_readFunction_45 : decode cX14_readFunction 45 = .ok (.getfield 168, 3) := by decide +kernel
theorem dX14_readFunction_48 : decode cX14_readFunction 48 = .ok (.istore_n 1, 1) := by decide +kernel
theorem dX14_readFunction_49 : decode cX14_readFunction 49 = .ok (.aload_n 0, 1) := by decide +kernel
theorem dX14_readFunction_50 : decode cX14_readFunction 50 = .ok (.getfield 23, 3) := by decide +kernel
theorem dX14_readFunction_53 : decode cX14_readFunction 53 = .ok (.getfield 208, 3) := by decide +kernel
theorem dX14_readFunction_56 : decode cX14_readFunction 56 = .ok (.iload_n 1, 1) := by decide +kernel
theorem dX14_readFunction_57 : decode cX14_readFunction 57 = .ok (.aload_n 0, 1) := by decide +kernel
theorem dX14_readFunction_58 : decode cX14_readFunction 58 = .ok (.getfield 110, 3) := by decide +kernel
theorem dX14_readFunction_61 : decode cX14_readFunction 61 = .ok (.iastore, 1) := by decide +kernel
theorem dX14_readFunction_62 : decode cX14_readFunction 62 = .ok (.aload_n 0, 1) := by decide +kernel
theorem dX14_readFunction_63 : decode cX14_readFunction 63 = .ok (.invokevirtual 147, 3) := by decide +kernel
theorem dX14_readFunction_66 : decode cX14_readFunction 66 = .ok (.aload_n 0, 1) := by decide +kernel
theorem dX14_readFunction_67 : decode cX14_readFunction 67 = .ok (.invokevirtual 211, 3) := by decide +kernel
theorem dX14_readFunction_70 : decode cX14_readFunction 70 = .ok (.ifCond .ne 13, 3) := by decide +kernel
theorem dX14_readFunction_73 : decode cX14_readFunction 73 = .ok (.aload_n 0, 1) := by decide +kernel
theorem dX14_readFunction_74 : decode cX14_readFunction 74 = .ok (.iconst 1, 1) := by decide +kernel
theorem dX14_readFunction_75 : decode cX14_readFunction 75 = .ok (.aload_n 0, 1) := by decide +kernel
theorem dX14_readFunction_76 : decode cX14_readFunction 76 = .ok (.getfield 110, 3) := by decide +kernel
theorem dX14_readFunction_79 : decode cX14_readFunction 79 = .ok (.invokevirtual 144, 3) := by decide +kernel
theorem dX14_readFunction_82 : decode cX14_readFunction 82 = .ok (.athrow, 1) := by decide +kernel
theorem dX14_readFunction_83 : decode cX14_readFunction 83 = .ok (.aload_n 0, 1) := by decide +kernel
theorem dX14_readFunction_84 : decode cX14_readFunction 84 = .ok (.getfield 23, 3) := by decide +kernel
theorem dX14_readFunction_87 : decode cX14_readFunction 87 = .ok (.aload_n 0, 1) := by decide +kernel
theorem dX14_readFunction_88 : decode cX14_readFunction 88 = .ok (.getfield 121, 3) := by decide +kernel
theorem dX14_readFunction_91 : decode cX14_readFunction 91 = .ok (.invokevirtual 192, 3) := by decide +kernel
theorem dX14_readFunction_94 : decode cX14_readFunction 94 = .ok (.iconst (-1), 1) := by decide +kernel
theorem dX14_readFunction_95 : decode cX14_readFunction 95 = .ok (.if_icmp .eq 13, 3) := by decide +kernel
theorem dX14_readFunction_98 : decode cX14_readFunction 98 = .ok (.aload_n 0, 1) := by decide +kernel
theorem dX14_readFunction_99 : decode cX14_readFunction 99 = .ok (.iconst 2, 1) := by decide +kernel
theorem dX14_readFunction_100 : decode cX14_readFunction 100 = .ok (.aload_n 0, 1) := by decide +kernel
theorem dX14_readFunction_101 : decode cX14_readFunction 101 = .ok (.getfield 110, 3) := by decide +kernel
theorem dX14_readFunction_104 : decode cX14_readFunction 104 = .ok (.invokevirtual 144, 3) := by decide +kernel
theorem dX14_readFunction_107 : decode cX14_readFunction 107 = .ok (.athrow, 1) := by decide +kernel
theorem dX14_readFunction_108 : decode cX14_readFunction 108 = .ok (.aload_n 0, 1) := by decide +kernel
theorem dX14_readFunction_109 : decode cX14_readFunction 109 = .ok (.getfield 23, 3) := by decide +kernel
theorem dX14_readFunction_112 : decode cX14_readFunction 112 = .ok (.getfield 215, 3) := by decide +kernel
theorem dX14_readFunction_115 : decode cX14_readFunction 115 = .ok (.iload_n 1, 1) := by decide +kernel
theorem dX14_readFunction_116 : decode cX14_readFunction 116 = .ok (.aload_n 0, 1) := by decide +kernel
theorem dX14_readFunction_117 : decode cX14_readFunction 117 = .ok (.getfield 121, 3) := by decide +kernel
theorem dX14_readFunction_120 : decode cX14_readFunction 120 = .ok (.lastore, 1) := by decide +kernel
theorem dX14_readFunction_121 : decode cX14_readFunction 121 = .ok (.aload_n 0, 1) := by decide +kernel
theorem dX14_readFunction_122 : decode cX14_readFunction 122 = .ok (.getfield 23, 3) := by decide +kernel
theorem dX14_readFunction_125 : decode cX14_readFunction 125 = .ok (.getfield 218, 3) := by decide +kernel
theorem dX14_readFunction_128 : decode cX14_readFunction 128 = .ok (.iload_n 1, 1) := by decide +kernel
theorem dX14_readFunction_129 : decode cX14_readFunction 129 = .ok (.aload_n 0, 1) := by decide +kernel
theorem dX14_readFunction_130 : decode cX14_readFunction 130 = .ok (.getfield 125, 3) := by decide +kernel
theorem dX14_readFunction_133 : decode cX14_readFunction 133 = .ok (.iastore, 1) := by decide +kernel
theorem dX14_readFunction_134 : decode cX14_readFunction 134 = .ok (.aload_n 0, 1) := by decide +kernel
theorem dX14_readFunction_135 : decode cX14_readFunction 135 = .ok (.getfield 23, 3) := by decide +kernel
theorem dX14_readFunction_138 : decode cX14_readFunction 138 = .ok (.dup, 1) := by decide +kernel
theorem dX14_readFunction_139 : decode cX14_readFunction 139 = .ok (.getfield 168, 3) := by decide +kernel
theorem dX14_readFunction_142 : decode cX14_readFunction 142 = .ok (.iconst 1, 1) := by decide +kernel
theorem dX14_readFunction_143 : decode cX14_readFunction 143 = .ok (.iadd, 1) := by decide +kernel
theorem dX14_readFunction_144 : decode cX14_readFunction 144 = .ok (.putfield 168, 3) := by decide +kernel
theorem dX14_readFunction_147 : decode cX14_readFunction 147 = .ok (.aload_n 0, 1) := by decide +kernel
theorem dX14_readFunction_148 : decode cX14_readFunction 148 = .ok (.invokevirtual 147, 3) := by decide +kernel
theorem dX14_readFunction_151 : decode cX14_readFunction 151 = .ok (.aload_n 0, 1) := by decide +kernel
theorem dX14_readFunction_152 : decode cX14_readFunction 152 = .ok (.bipush 40, 2) := by decide +kernel
theorem dX14_readFunction_154 : decode cX14_readFunction 154 = .ok (.invokevirtual 221, 3) := by decide +kernel
theorem dX14_readFunction_157 : decode cX14_readFunction 157 = .ok (.aload_n 0, 1) := by decide +kernel
theorem dX14_readFunction_158 : decode cX14_readFunction 158 = .ok (.getfield 23, 3) := by decide +kernel
theorem dX14_readFunction_161 : decode cX14_readFunction 161 = .ok (.getfield 196, 3) := by decide +kernel
theorem dX14_readFunction_164 : decode cX14_readFunction 164 = .ok (.iload_n 1, 1) := by decide +kernel
theorem dX14_readFunction_165 : decode cX14_readFunction 165 = .ok (.iconst 0, 1) := by decide +kernel
theorem dX14_readFunction_166 : decode cX14_readFunction 166 = .ok (.iastore, 1) := by decide +kernel
theorem dX14_readFunction_167 : decode cX14_readFunction 167 = .ok (.aload_n 0, 1) := by decide +kernel
theorem dX14_readFunction_168 : decode cX14_readFunction 168 = .ok (.bipush 41, 2) := by decide +kernel
theorem dX14_readFunction_170 : decode cX14_readFunction 170 = .ok (.invokevirtual 141, 3) := by decide +kernel
theorem dX14_readFunction_173 : decode cX14_readFunction 173 = .ok (.ifCond .ne 7, 3) := by decide +kernel
theorem dX14_readFunction_176 : decode cX14_readFunction 176 = .ok (.iconst 1, 1) := by decide +kernel
theorem dX14_readFunction_177 : decode cX14_readFunction 177 = .ok (.goto 4, 3) := by decide +kernel
theorem dX14_readFunction_180 : decode cX14_readFunction 180 = .ok (.iconst 0, 1) := by decide +kernel
theorem dX14_readFunction_181 : decode cX14_readFunction 181 = .ok (.istore_n 2, 1) := by decide +kernel
theorem dX14_readFunction_182 : decode cX14_readFunction 182 = .ok (.iload_n 2, 1) := by decide +kernel
theorem dX14_readFunction_183 : decode cX14_readFunction 183 = .ok (.ifCond .eq 159, 3) := by decide +kernel
theorem dX14_readFunction_186 : decode cX14_readFunction 186 = .ok (.aload_n 0, 1) := by decide +kernel
theorem dX14_readFunction_187 : decode cX14_readFunction 187 = .ok (.invokevirtual 225, 3) := by decide +kernel
theorem dX14_readFunction_190 : decode cX14_readFunction 190 = .ok (.ifCond .ne 13, 3) := by decide +kernel
theorem dX14_readFunction_193 : decode cX14_readFunction 193 = .ok (.aload_n 0, 1) := by decide +kernel
theorem dX14_readFunction_194 : decode cX14_readFunction 194 = .ok (.iconst 1, 1) := by decide +kernel
theorem dX14_readFunction_195 : decode cX14_readFunction 195 = .ok (.aload_n 0, 1) := by decide +kernel
theorem dX14_readFunction_196 : decode cX14_readFunction 196 = .ok (.getfield 110, 3) := by decide +kernel
theorem dX14_readFunction_199 : decode cX14_readFunction 199 = .ok (.invokevirtual 144, 3) := by decide +kernel
theorem dX14_readFunction_202 : decode cX14_readFunction 202 = .ok (.athrow, 1) := by decide +kernel
theorem dX14_readFunction_203 : decode cX14_readFunction 203 = .ok (.aload_n 0, 1) := by decide +kernel
theorem dX14_readFunction_204 : decode cX14_readFunction 204 = .ok (.getfield 121, 3) := by decide +kernel
theorem dX14_readFunction_207 : decode cX14_readFunction 207 = .ok (.l2i, 1) := by decide +kernel
theorem dX14_readFunction_208 : decode cX14_readFunction 208 = .ok (.iconst 1, 1) := by decide +kernel
theorem dX14_readFunction_209 : decode cX14_readFunction 209 = .ok (.isub, 1) := by decide +kernel
theorem dX14_readFunction_210 : decode cX14_readFunction 210 = .ok (.istore_n 3, 1) := by decide +kernel
theorem dX14_readFunction_211 : decode cX14_readFunction 211 = .ok (.iconst 0, 1) := by decide +kernel
theorem dX14_readFunction_212 : decode cX14_readFunction 212 = .ok (.istore 4, 2) := by decide +kernel
theorem dX14_readFunction_214 : decode cX14_readFunction 214 = .ok (.iload 4, 2) := by decide +kernel
theorem dX14_readFunction_216 : decode cX14_readFunction 216 = .ok (.aload_n 0, 1) := by decide +kernel
theorem dX14_readFunction_217 : decode cX14_readFunction 217 = .ok (.getfield 23, 3) := by decide +kernel
theorem dX14_readFunction_220 : decode cX14_readFunction 220 = .ok (.getfield 196, 3) := by decide +kernel
theorem dX14_readFunction_223 : decode cX14_readFunction 223 = .ok (.iload_n 1, 1) := by decide +kernel
theorem dX14_readFunction_224 : decode cX14_readFunction 224 = .ok (.iaload, 1) := by decide +kernel
theorem dX14_readFunction_225 : decode cX14_readFunction 225 = .ok (.if_icmp .ge 37, 3) := by decide +kernel
theorem dX14_readFunction_228 : decode cX14_readFunction 228 = .ok (.aload_n 0, 1) := by decide +kernel
theorem dX14_readFunction_229 : decode cX14_readFunction 229 = .ok (.getfield 23, 3) := by decide +kernel
theorem dX14_readFunction_232 : decode cX14_readFunction 232 = .ok (.getfield 228, 3) := by decide +kernel
theorem dX14_readFunction_235 : decode cX14_readFunction 235 = .ok (.iconst 3, 1) := by decide +kernel
theorem dX14_readFunction_236 : decode cX14_readFunction 236 = .ok (.iload_n 1, 1) := by decide +kernel
theorem dX14_readFunction_237 : decode cX14_readFunction 237 = .ok (.imul, 1) := by decide +kernel
theorem dX14_readFunction_238 : decode cX14_readFunction 238 = .ok (.iload 4, 2) := by decide +kernel
theorem dX14_readFunction_240 : decode cX14_readFunction 240 = .ok (.iadd, 1) := by decide +kernel
theorem dX14_readFunction_241 : decode cX14_readFunction 241 = .ok (.iaload, 1) := by decide +kernel
theorem dX14_readFunction_242 : decode cX14_readFunction 242 = .ok (.iload_n 3, 1) := by decide +kernel
theorem dX14_readFunction_243 : decode cX14_readFunction 243 = .ok (.if_icmp .ne 13, 3) := by decide +kernel
theorem dX14_readFunction_246 : decode cX14_readFunction 246 = .ok (.aload_n 0, 1) := by decide +kernel
theorem dX14_readFunction_247 : decode cX14_readFunction 247 = .ok (.iconst 2, 1) := by decide +kernel
theorem dX14_readFunction_248 : decode cX14_readFunction 248 = .ok (.aload_n 0, 1) := by decide +kernel
theorem dX14_readFunction_249 : decode cX14_readFunction 249 = .ok (.getfield 110, 3) := by decide +kernel
theorem dX14_readFunction_252 : decode cX14_readFunction 252 = .ok (.invokevirtual 144, 3) := by decide +kernel
theorem dX14_readFunction_255 : decode cX14_readFunction 255 = .ok (.athrow, 1) := by decide +kernel
theorem dX14_readFunction_256 : decode cX14_readFunction 256 = .ok (.iinc 4 1, 3) := by decide +kernel
theorem dX14_readFunction_259 : decode cX14_readFunction 259 = .ok (.goto (-45), 3) := by decide +kernel
theorem dX14_readFunction_262 : decode cX14_readFunction 262 = .ok (.aload_n 0, 1) := by decide +kernel
theorem dX14_readFunction_263 : decode cX14_readFunction 263 = .ok (.getfield 23, 3) := by decide +kernel
theorem dX14_readFunction_266 : decode cX14_readFunction 266 = .ok (.getfield 196, 3) := by decide +kernel
theorem dX14_readFunction_269 : decode cX14_readFunction 269 = .ok (.iload_n 1, 1) := by decide +kernel
theorem dX14_readFunction_270 : decode cX14_readFunction 270 = .ok (.iaload, 1) := by decide +kernel
theorem dX14_readFunction_271 : decode cX14_readFunction 271 = .ok (.iconst 3, 1) := by decide +kernel
theorem dX14_readFunction_272 : decode cX14_readFunction 272 = .ok (.if_icmp .ne 13, 3) := by decide +kernel
theorem dX14_readFunction_275 : decode cX14_readFunction 275 = .ok (.aload_n 0, 1) := by decide +kernel
theorem dX14_readFunction_276 : decode cX14_readFunction 276 = .ok (.iconst 3, 1) := by decide +kernel
theorem dX14_readFunction_277 : decode cX14_readFunction 277 = .ok (.aload_n 0, 1) := by decide +kernel
theorem dX14_readFunction_278 : decode cX14_readFunction 278 = .ok (.getfield 110, 3) := by decide +kernel
theorem dX14_readFunction_281 : decode cX14_readFunction 281 = .ok (.invokevirtual 144, 3) := by decide +kernel
theorem dX14_readFunction_284 : decode cX14_readFunction 284 = .ok (.athrow, 1) := by decide +kernel
theorem dX14_readFunction_285 : decode cX14_readFunction 285 = .ok (.aload_n 0, 1) := by decide +kernel
theorem dX14_readFunction_286 : decode cX14_readFunction 286 = .ok (.getfield 23, 3) := by decide +kernel
theorem dX14_readFunction_289 : decode cX14_readFunction 289 = .ok (.getfield 228, 3) := by decide +kernel
theorem dX14_readFunction_292 : decode cX14_readFunction 292 = .ok (.iconst 3, 1) := by decide +kernel
theorem dX14_readFunction_293 : decode cX14_readFunction 293 = .ok (.iload_n 1, 1) := by decide +kernel
theorem dX14_readFunction_294 : decode cX14_readFunction 294 = .ok (.imul, 1) := by decide +kernel
theorem dX14_readFunction_295 : decode cX14_readFunction 295 = .ok (.aload_n 0, 1) := by decide +kernel
theorem dX14_readFunction_296 : decode cX14_readFunction 296 = .ok (.getfield 23, 3) := by decide +kernel
theorem dX14_readFunction_299 : decode cX14_readFunction 299 = .ok (.getfield 196, 3) := by decide +kernel
theorem dX14_readFunction_302 : decode cX14_readFunction 302 = .ok (.iload_n 1, 1) := by decide +kernel
theorem dX14_readFunction_303 : decode cX14_readFunction 303 = .ok (.iaload, 1) := by decide +kernel
theorem dX14_readFunction_304 : decode cX14_readFunction 304 = .ok (.iadd, 1) := by decide +kernel
theorem dX14_readFunction_305 : decode cX14_readFunction 305 = .ok (.iload_n 3, 1) := by decide +kernel
theorem dX14_readFunction_306 : decode cX14_readFunction 306 = .ok (.iastore, 1) := by decide +kernel
theorem dX14_readFunction_307 : decode cX14_readFunction 307 = .ok (.aload_n 0, 1) := by decide +kernel
theorem dX14_readFunction_308 : decode cX14_readFunction 308 = .ok (.getfield 23, 3) := by decide +kernel
theorem dX14_readFunction_311 : decode cX14_readFunction 311 = .ok (.getfield 196, 3) := by decide +kernel
theorem dX14_readFunction_314 : decode cX14_readFunction 314 = .ok (.iload_n 1, 1) := by decide +kernel
theorem dX14_readFunction_315 : decode cX14_readFunction 315 = .ok (.dup2, 1) := by decide +kernel
theorem dX14_readFunction_316 : decode cX14_readFunction 316 = .ok (.iaload, 1) := by decide +kernel
theorem dX14_readFunction_317 : decode cX14_readFunction 317 = .ok (.iconst 1, 1) := by decide +kernel
theorem dX14_readFunction_318 : decode cX14_readFunction 318 = .ok (.iadd, 1) := by decide +kernel
theorem dX14_readFunction_319 : decode cX14_readFunction 319 = .ok (.iastore, 1) := by decide +kernel
theorem dX14_readFunction_320 : decode cX14_readFunction 320 = .ok (.aload_n 0, 1) := by decide +kernel
theorem dX14_readFunction_321 : decode cX14_readFunction 321 = .ok (.invokevirtual 147, 3) := by decide +kernel
theorem dX14_readFunction_324 : decode cX14_readFunction 324 = .ok (.aload_n 0, 1) := by decide +kernel
theorem dX14_readFunction_325 : decode cX14_readFunction 325 = .ok (.bipush 44, 2) := by decide +kernel
theorem dX14_readFunction_327 : decode cX14_readFunction 327 = .ok (.invokevirtual 141, 3) := by decide +kernel
theorem dX14_readFunction_330 : decode cX14_readFunction 330 = .ok (.istore_n 2, 1) := by decide +kernel
theorem dX14_readFunction_331 : decode cX14_readFunction 331 = .ok (.iload_n 2, 1) := by decide +kernel
theorem dX14_readFunction_332 : decode cX14_readFunction 332 = .ok (.ifCond .eq 7, 3) := by decide +kernel
theorem dX14_readFunction_335 : decode cX14_readFunction 335 = .ok (.aload_n 0, 1) := by decide +kernel
theorem dX14_readFunction_336 : decode cX14_readFunction 336 = .ok (.invokevirtual 147, 3) := by decide +kernel
theorem dX14_readFunction_339 : decode cX14_readFunction 339 = .ok (.goto (-157), 3) := by decide +kernel
theorem dX14_readFunction_342 : decode cX14_readFunction 342 = .ok (.aload_n 0, 1) := by decide +kernel
theorem dX14_readFunction_343 : decode cX14_readFunction 343 = .ok (.bipush 41, 2) := by decide +kernel
theorem dX14_readFunction_345 : decode cX14_readFunction 345 = .ok (.invokevirtual 221, 3) := by decide +kernel
theorem dX14_readFunction_348 : decode cX14_readFunction 348 = .ok (.aload_n 0, 1) := by decide +kernel
theorem dX14_readFunction_349 : decode cX14_readFunction 349 = .ok (.getfield 23, 3) := by decide +kernel
theorem dX14_readFunction_352 : decode cX14_readFunction 352 = .ok (.getfield 230, 3) := by decide +kernel
theorem dX14_readFunction_355 : decode cX14_readFunction 355 = .ok (.iload_n 1, 1) := by decide +kernel
theorem dX14_readFunction_356 : decode cX14_readFunction 356 = .ok (.aload_n 0, 1) := by decide +kernel
theorem dX14_readFunction_357 : decode cX14_readFunction 357 = .ok (.getfield 23, 3) := by decide +kernel
theorem dX14_readFunction_360 : decode cX14_readFunction 360 = .ok (.getfield 171, 3) := by decide +kernel
theorem dX14_readFunction_363 : decode cX14_readFunction 363 = .ok (.iastore, 1) := by decide +kernel
theorem dX14_readFunction_364 : decode cX14_readFunction 364 = .ok (.aload_n 0, 1) := by decide +kernel
theorem dX14_readFunction_365 : decode cX14_readFunction 365 = .ok (.iload_n 1, 1) := by decide +kernel
theorem dX14_readFunction_366 : decode cX14_readFunction 366 = .ok (.iconst (-1), 1) := by decide +kernel
theorem dX14_readFunction_367 : decode cX14_readFunction 367 = .ok (.invokevirtual 233, 3) := by decide +kernel
theorem dX14_readFunction_370 : decode cX14_readFunction 370 = .ok (.pop, 1) := by decide +kernel
theorem dX14_readFunction_371 : decode cX14_readFunction 371 = .ok (.aload_n 0, 1) := by decide +kernel
theorem dX14_readFunction_372 : decode cX14_readFunction 372 = .ok (.getfield 23, 3) := by decide +kernel
theorem dX14_readFunction_375 : decode cX14_readFunction 375 = .ok (.getfield 237, 3) := by decide +kernel
theorem dX14_readFunction_378 : decode cX14_readFunction 378 = .ok (.iload_n 1, 1) := by decide +kernel
theorem dX14_readFunction_379 : decode cX14_readFunction 379 = .ok (.aload_n 0, 1) := by decide +kernel
theorem dX14_readFunction_380 : decode cX14_readFunction 380 = .ok (.getfield 23, 3) := by decide +kernel
theorem dX14_readFunction_383 : decode cX14_readFunction 383 = .ok (.getfield 171, 3) := by decide +kernel
theorem dX14_readFunction_386 : decode cX14_readFunction 386 = .ok (.aload_n 0, 1) := by decide +kernel
theorem dX14_readFunction_387 : decode cX14_readFunction 387 = .ok (.getfield 23, 3) := by decide +kernel
theorem dX14_readFunction_390 : decode cX14_readFunction 390 = .ok (.getfield 230, 3) := by decide +kernel
theorem dX14_readFunction_393 : decode cX14_readFunction 393 = .ok (.iload_n 1, 1) := by decide +kernel
theorem dX14_readFunction_394 : decode cX14_readFunction 394 = .ok (.iaload, 1) := by decide +kernel
theorem dX14_readFunction_395 : decode cX14_readFunction 395 = .ok (.isub, 1) := by decide +kernel
theorem dX14_readFunction_396 : decode cX14_readFunction 396 = .ok (.iastore, 1) := by decide +kernel
theorem dX14_readFunction_397 : decode cX14_readFunction 397 = .ok (.return_, 1) := by decide +kernel
theorem dX14_feed_0 : decode cX14_feed 0 = .ok (.aload_n 0, 1) := by decide +kernel
theorem dX14_feed_1 : decode cX14_feed 1 = .ok (.iconst 0, 1) := by decide +kernel
theorem dX14_feed_2 : decode cX14_feed 2 = .ok (.putfield 76, 3) := by decide +kernel
theorem dX14_feed_5 : decode cX14_feed 5 = .ok (.aload_n 0, 1) := by decide +kernel
theorem dX14_feed_6 : decode cX14_feed 6 = .ok (.getfield 304, 3) := by decide +kernel
theorem dX14_feed_9 : decode cX14_feed 9 = .ok (.bipush 20, 2) := by decide +kernel
theorem dX14_feed_11 : decode cX14_feed 11 = .ok (.iadd, 1) := by decide +kernel
theorem dX14_feed_12 : decode cX14_feed 12 = .ok (.sipush 600, 3) := by decide +kernel
theorem dX14_feed_15 : decode cX14_feed 15 = .ok (.if_icmp .le 5, 3) := by decide +kernel
theorem dX14_feed_18 : decode cX14_feed 18 = .ok (.iconst (-1), 1) := by decide +kernel
theorem dX14_feed_19 : decode cX14_feed 19 = .ok (.ireturn, 1) := by decide +kernel
theorem dX14_feed_20 : decode cX14_feed 20 = .ok (.iconst 0, 1) := by decide +kernel
theorem dX14_feed_21 : decode cX14_feed 21 = .ok (.istore 6, 2) := by decide +kernel
theorem dX14_feed_23 : decode cX14_feed 23 = .ok (.iload 6, 2) := by decide +kernel
theorem dX14_feed_25 : decode cX14_feed 25 = .ok (.bipush 20, 2) := by decide +kernel
theorem dX14_feed_27 : decode cX14_feed 27 = .ok (.if_icmp .ge 90, 3) := by decide +kernel
theorem dX14_feed_30 : decode cX14_feed 30 = .ok (.iload 6, 2) := by decide +kernel
theorem dX14_feed_32 : decode cX14_feed 32 = .ok (.iconst 4, 1) := by decide +kernel
theorem dX14_feed_33 : decode cX14_feed 33 = .ok (.if_icmp .ge 7, 3) := by decide +kernel
theorem dX14_feed_36 : decode cX14_feed 36 = .ok (.iload_n 1, 1) := by decide +kernel
theorem dX14_feed_37 : decode cX14_feed 37 = .ok (.goto 39, 3) := by decide +kernel
theorem dX14_feed_40 : decode cX14_feed 40 = .ok (.iload 6, 2) := by decide +kernel
theorem dX14_feed_42 : decode cX14_feed 42 = .ok (.bipush 8, 2) := by decide +kernel
theorem dX14_feed_44 : decode cX14_feed 44 = .ok (.if_icmp .ge 7, 3) := by decide +kernel
theorem dX14_feed_47 : decode cX14_feed 47 = .ok (.iload_n 2, 1) := by decide +kernel
theorem dX14_feed_48 : decode cX14_feed 48 = .ok (.goto 28, 3) := by decide +kernel
theorem dX14_feed_51 : decode cX14_feed 51 = .ok (.iload 6, 2) := by decide +kernel
theorem dX14_feed_53 : decode cX14_feed 53 = .ok (.bipush 12, 2) := by decide +kernel
theorem dX14_feed_55 : decode cX14_feed 55 = .ok (.if_icmp .ge 7, 3) := by decide +kernel
theorem dX14_feed_58 : decode cX14_feed 58 = .ok (.iload_n 3, 1) := by decide +kernel
theorem dX14_feed_59 : decode cX14_feed 59 = .ok (.goto 17, 3) := by decide +kernel
theorem dX14_feed_62 : decode cX14_feed 62 = .ok (.iload 6, 2) := by decide +kernel
theorem dX14_feed_64 : decode cX14_feed 64 = .ok (.bipush 16, 2) := by decide +kernel
theorem dX14_feed_66 : decode cX14_feed 66 = .ok (.if_icmp .ge 8, 3) := by decide +kernel
theorem dX14_feed_69 : decode cX14_feed 69 = .ok (.iload 4, 2) := by decide +kernel
theorem dX14_feed_71 : decode cX14_feed 71 = .ok (.goto 5, 3) := by decide +kernel
theorem dX14_feed_74 : decode cX14_feed 74 = .ok (.iload 5, 2) := by decide +kernel
theorem dX14_feed_76 : decode cX14_feed 76 = .ok (.istore 7, 2) := by decide +kernel
theorem dX14_feed_78 : decode cX14_feed 78 = .ok (.aload_n 0, 1) := by decide +kernel
theorem dX14_feed_79 : decode cX14_feed 79 = .ok (.getfield 33, 3) := by decide +kernel
theorem dX14_feed_82 : decode cX14_feed 82 = .ok (.aload_n 0, 1) := by decide +kernel
theorem dX14_feed_83 : decode cX14_feed 83 = .ok (.getfield 304, 3) := by decide +kernel
theorem dX14_feed_86 : decode cX14_feed 86 = .ok (.iload 7, 2) := by decide +kernel
theorem dX14_feed_88 : decode cX14_feed 88 = .ok (.bipush 24, 2) := by decide +kernel
theorem dX14_feed_90 : decode cX14_feed 90 = .ok (.bipush 8, 2) := by decide +kernel
theorem dX14_feed_92 : decode cX14_feed 92 = .ok (.iload 6, 2) := by decide +kernel
theorem dX14_feed_94 : decode cX14_feed 94 = .ok (.iconst 4, 1) := by decide +kernel
theorem dX14_feed_95 : decode cX14_feed 95 = .ok (.irem, 1) := by decide +kernel
theorem dX14_feed_96 : decode cX14_feed 96 = .ok (.imul, 1) := by decide +kernel
theorem dX14_feed_97 : decode cX14_feed 97 = .ok (.isub, 1) := by decide +kernel
theorem dX14_feed_98 : decode cX14_feed 98 = .ok (.ishr, 1) := by decide +kernel
theorem dX14_feed_99 : decode cX14_feed 99 = .ok (.i2b, 1) := by decide +kernel
theorem dX14_feed_100 : decode cX14_feed 100 = .ok (.bastore, 1) := by decide +kernel
theorem dX14_feed_101 : decode cX14_feed 101 = .ok (.aload_n 0, 1) := by decide +kernel
theorem dX14_feed_102 : decode cX14_feed 102 = .ok (.dup, 1) := by decide +kernel
theorem dX14_feed_103 : decode cX14_feed 103 = .ok (.getfield 304, 3) := by decide +kernel
theorem dX14_feed_106 : decode cX14_feed 106 = .ok (.iconst 1, 1) := by decide +kernel
theorem dX14_feed_107 : decode cX14_feed 107 = .ok (.iadd, 1) := by decide +kernel
theorem dX14_feed_108 : decode cX14_feed 108 = .ok (.putfield 304, 3) := by decide +kernel
theorem dX14_feed_111 : decode cX14_feed 111 = .ok (.iinc 6 1, 3) := by decide +kernel
theorem dX14_feed_114 : decode cX14_feed 114 = .ok (.goto (-91), 3) := by decide +kernel
theorem dX14_feed_117 : decode cX14_feed 117 = .ok (.aload_n 0, 1) := by decide +kernel
theorem dX14_feed_118 : decode cX14_feed 118 = .ok (.getfield 304, 3) := by decide +kernel
theorem dX14_feed_121 : decode cX14_feed 121 = .ok (.ireturn, 1) := by decide +kernel
theorem dX14_program_0 : decode cX14_program 0 = .ok (.aload_n 0, 1) := by decide +kernel
theorem dX14_program_1 : decode cX14_program 1 = .ok (.iconst 0, 1) := by decide +kernel
theorem dX14_program_2 : decode cX14_program 2 = .ok (.putfield 76, 3) := by decide +kernel
theorem dX14_program_5 : decode cX14_program 5 = .ok (.iload_n 1, 1) := by decide +kernel
theorem dX14_program_6 : decode cX14_program 6 = .ok (.ifCond .lt 11, 3) := by decide +kernel
theorem dX14_program_9 : decode cX14_program 9 = .ok (.iload_n 1, 1) := by decide +kernel
theorem dX14_program_10 : decode cX14_program 10 = .ok (.aload_n 0, 1) := by decide +kernel
theorem dX14_program_11 : decode cX14_program 11 = .ok (.getfield 304, 3) := by decide +kernel
theorem dX14_program_14 : decode cX14_program 14 = .ok (.if_icmp .le 9, 3) := by decide +kernel
theorem dX14_program_17 : decode cX14_program 17 = .ok (.aload_n 0, 1) := by decide +kernel
theorem dX14_program_18 : decode cX14_program 18 = .ok (.iconst 2, 1) := by decide +kernel
theorem dX14_program_19 : decode cX14_program 19 = .ok (.invokevirtual 307, 3) := by decide +kernel
theorem dX14_program_22 : decode cX14_program 22 = .ok (.ireturn, 1) := by decide +kernel
theorem dX14_program_23 : decode cX14_program 23 = .ok (.aload_n 0, 1) := by decide +kernel
theorem dX14_program_24 : decode cX14_program 24 = .ok (.iload_n 1, 1) := by decide +kernel
theorem dX14_program_25 : decode cX14_program 25 = .ok (.putfield 88, 3) := by decide +kernel
theorem dX14_program_28 : decode cX14_program 28 = .ok (.aload_n 0, 1) := by decide +kernel
theorem dX14_program_29 : decode cX14_program 29 = .ok (.iconst 0, 1) := by decide +kernel
theorem dX14_program_30 : decode cX14_program 30 = .ok (.putfield 304, 3) := by decide +kernel
theorem dX14_program_33 : decode cX14_program 33 = .ok (.aload_n 0, 1) := by decide +kernel
theorem dX14_program_34 : decode cX14_program 34 = .ok (.iconst 0, 1) := by decide +kernel
theorem dX14_program_35 : decode cX14_program 35 = .ok (.putfield 103, 3) := by decide +kernel
theorem dX14_program_38 : decode cX14_program 38 = .ok (.aload_n 0, 1) := by decide +kernel
theorem dX14_program_39 : decode cX14_program 39 = .ok (.iconst 0, 1) := by decide +kernel
theorem dX14_program_40 : decode cX14_program 40 = .ok (.putfield 310, 3) := by decide +kernel
theorem dX14_program_43 : decode cX14_program 43 = .ok (.aload_n 0, 1) := by decide +kernel
theorem dX14_program_44 : decode cX14_program 44 = .ok (.invokevirtual 313, 3) := by decide +kernel
theorem dX14_program_47 : decode cX14_program 47 = .ok (.goto 27, 3) := by decide +kernel
theorem dX14_program_50 : decode cX14_program 50 = .ok (.astore_n 2, 1) := by decide +kernel
theorem dX14_program_51 : decode cX14_program 51 = .ok (.aload_n 0, 1) := by decide +kernel
theorem dX14_program_52 : decode cX14_program 52 = .ok (.aload_n 2, 1) := by decide +kernel
theorem dX14_program_53 : decode cX14_program 53 = .ok (.getfield 82, 3) := by decide +kernel
theorem dX14_program_56 : decode cX14_program 56 = .ok (.putfield 310, 3) := by decide +kernel
theorem dX14_program_59 : decode cX14_program 59 = .ok (.aload_n 0, 1) := by decide +kernel
theorem dX14_program_60 : decode cX14_program 60 = .ok (.iconst 4, 1) := by decide +kernel
theorem dX14_program_61 : decode cX14_program 61 = .ok (.putfield 79, 3) := by decide +kernel
theorem dX14_program_64 : decode cX14_program 64 = .ok (.aload_n 0, 1) := by decide +kernel
theorem dX14_program_65 : decode cX14_program 65 = .ok (.aload_n 2, 1) := by decide +kernel
theorem dX14_program_66 : decode cX14_program 66 = .ok (.getfield 85, 3) := by decide +kernel
theorem dX14_program_69 : decode cX14_program 69 = .ok (.putfield 9, 3) := by decide +kernel
theorem dX14_program_72 : decode cX14_program 72 = .ok (.iconst (-1), 1) := by decide +kernel
theorem dX14_program_73 : decode cX14_program 73 = .ok (.ireturn, 1) := by decide +kernel
theorem dX14_program_74 : decode cX14_program 74 = .ok (.aload_n 0, 1) := by decide +kernel
theorem dX14_program_75 : decode cX14_program 75 = .ok (.invokevirtual 316, 3) := by decide +kernel
theorem dX14_program_78 : decode cX14_program 78 = .ok (.aload_n 0, 1) := by decide +kernel
theorem dX14_program_79 : decode cX14_program 79 = .ok (.getfield 20, 3) := by decide +kernel
theorem dX14_program_82 : decode cX14_program 82 = .ok (.astore_n 2, 1) := by decide +kernel
theorem dX14_program_83 : decode cX14_program 83 = .ok (.aload_n 0, 1) := by decide +kernel
theorem dX14_program_84 : decode cX14_program 84 = .ok (.aload_n 0, 1) := by decide +kernel
theorem dX14_program_85 : decode cX14_program 85 = .ok (.getfield 16, 3) := by decide +kernel
theorem dX14_program_88 : decode cX14_program 88 = .ok (.putfield 20, 3) := by decide +kernel
theorem dX14_program_91 : decode cX14_program 91 = .ok (.aload_n 0, 1) := by decide +kernel
theorem dX14_program_92 : decode cX14_program 92 = .ok (.aload_n 0, 1) := by decide +kernel
theorem dX14_program_93 : decode cX14_program 93 = .ok (.getfield 23, 3) := by decide +kernel
theorem dX14_program_96 : decode cX14_program 96 = .ok (.putfield 16, 3) := by decide +kernel
theorem dX14_program_99 : decode cX14_program 99 = .ok (.aload_n 0, 1) := by decide +kernel
theorem dX14_program_100 : decode cX14_program 100 = .ok (.aload_n 2, 1) := by decide +kernel
theorem dX14_program_101 : decode cX14_program 101 = .ok (.putfield 23, 3) := by decide +kernel
theorem dX14_program_104 : decode cX14_program 104 = .ok (.aload_n 0, 1) := by decide +kernel
theorem dX14_program_105 : decode cX14_program 105 = .ok (.aload_n 0, 1) := by decide +kernel
theorem dX14_program_106 : decode cX14_program 106 = .ok (.getfield 318, 3) := by decide +kernel
theorem dX14_program_109 : decode cX14_program 109 = .ok (.putfield 321, 3) := by decide +kernel
theorem dX14_program_112 : decode cX14_program 112 = .ok (.aload_n 0, 1) := by decide +kernel
theorem dX14_program_113 : decode cX14_program 113 = .ok (.iconst 1, 1) := by decide +kernel
theorem dX14_program_114 : decode cX14_program 114 = .ok (.putfield 318, 3) := by decide +kernel
theorem dX14_program_117 : decode cX14_program 117 = .ok (.aload_n 0, 1) := by decide +kernel
theorem dX14_program_118 : decode cX14_program 118 = .ok (.iconst 0, 1) := by decide +kernel
theorem dX14_program_119 : decode cX14_program 119 = .ok (.putfield 324, 3) := by decide +kernel
theorem dX14_program_122 : decode cX14_program 122 = .ok (.aload_n 0, 1) := by decide +kernel
theorem dX14_program_123 : decode cX14_program 123 = .ok (.iconst 0, 1) := by decide +kernel
theorem dX14_program_124 : decode cX14_program 124 = .ok (.putfield 327, 3) := by decide +kernel
theorem dX14_program_127 : decode cX14_program 127 = .ok (.aload_n 0, 1) := by decide +kernel
theorem dX14_program_128 : decode cX14_program 128 = .ok (.iconst 0, 1) := by decide +kernel
theorem dX14_program_129 : decode cX14_program 129 = .ok (.putfield 330, 3) := by decide +kernel
theorem dX14_program_132 : decode cX14_program 132 = .ok (.aload_n 0, 1) := by decide +kernel
theorem dX14_program_133 : decode cX14_program 133 = .ok (.aload_n 0, 1) := by decide +kernel
theorem dX14_program_134 : decode cX14_program 134 = .ok (.getfield 16, 3) := by decide +kernel
theorem dX14_program_137 : decode cX14_program 137 = .ok (.getfield 168, 3) := by decide +kernel
theorem dX14_program_140 : decode cX14_program 140 = .ok (.invokevirtual 333, 3) := by decide +kernel
theorem dX14_program_143 : decode cX14_program 143 = .ok (.ireturn, 1) := by decide +kernel
theorem dX14_fault_0 : decode cX14_fault 0 = .ok (.aload_n 0, 1) := by decide +kernel
theorem dX14_fault_1 : decode cX14_fault 1 = .ok (.iconst 0, 1) := by decide +kernel
theorem dX14_fault_2 : decode cX14_fault 2 = .ok (.putfield 76, 3) := by decide +kernel
theorem dX14_fault_5 : decode cX14_fault 5 = .ok (.aload_n 0, 1) := by decide +kernel
theorem dX14_fault_6 : decode cX14_fault 6 = .ok (.getfield 310, 3) := by decide +kernel
theorem dX14_fault_9 : decode cX14_fault 9 = .ok (.ireturn, 1) := by decide +kernel
theorem dX14_where_0 : decode cX14_where 0 = .ok (.aload_n 0, 1) := by decide +kernel
theorem dX14_where_1 : decode cX14_where 1 = .ok (.iconst 0, 1) := by decide +kernel
theorem dX14_where_2 : decode cX14_where 2 = .ok (.putfield 76, 3) := by decide +kernel
theorem dX14_where_5 : decode cX14_where 5 = .ok (.aload_n 0, 1) := by decide +kernel
theorem dX14_where_6 : decode cX14_where 6 = .ok (.getfield 9, 3) := by decide +kernel
theorem dX14_where_9 : decode cX14_where 9 = .ok (.ireturn, 1) := by decide +kernel
theorem dX14_isFunction_0 : decode cX14_isFunction 0 = .ok (.aload_n 0, 1) := by decide +kernel
theorem dX14_isFunction_1 : decode cX14_isFunction 1 = .ok (.getfield 318, 3) := by decide +kernel
theorem dX14_isFunction_4 : decode cX14_isFunction 4 = .ok (.ifCond .eq 22, 3) := by decide +kernel
theorem dX14_isFunction_7 : decode cX14_isFunction 7 = .ok (.iload_n 1, 1) := by decide +kernel
theorem dX14_isFunction_8 : decode cX14_isFunction 8 = .ok (.ifCond .lt 18, 3) := by decide +kernel
theorem dX14_isFunction_11 : decode cX14_isFunction 11 = .ok (.iload_n 1, 1) := by decide +kernel
theorem dX14_isFunction_12 : decode cX14_isFunction 12 = .ok (.aload_n 0, 1) := by decide +kernel
theorem dX14_isFunction_13 : decode cX14_isFunction 13 = .ok (.getfield 16, 3) := by decide +kernel
theorem dX14_isFunction_16 : decode cX14_isFunction 16 = .ok (.getfield 168, 3) := by decide +kernel
theorem dX14_isFunction_19 : decode cX14_isFunction 19 = .ok (.if_icmp .ge 7, 3) := by decide +kernel
theorem dX14_isFunction_22 : decode cX14_isFunction 22 = .ok (.iconst 1, 1) := by decide +kernel
theorem dX14_isFunction_23 : decode cX14_isFunction 23 = .ok (.goto 4, 3) := by decide +kernel
theorem dX14_isFunction_26 : decode cX14_isFunction 26 = .ok (.iconst 0, 1) := by decide +kernel
theorem dX14_isFunction_27 : decode cX14_isFunction 27 = .ok (.ireturn, 1) := by decide +kernel
theorem dX14_isLine_0 : decode cX14_isLine 0 = .ok (.aload_n 0, 1) := by decide +kernel
theorem dX14_isLine_1 : decode cX14_isLine 1 = .ok (.getfield 318, 3) := by decide +kernel
theorem dX14_isLine_4 : decode cX14_isLine 4 = .ok (.ifCond .eq 22, 3) := by decide +kernel
theorem dX14_isLine_7 : decode cX14_isLine 7 = .ok (.iload_n 1, 1) := by decide +kernel
theorem dX14_isLine_8 : decode cX14_isLine 8 = .ok (.ifCond .lt 18, 3) := by decide +kernel
theorem dX14_isLine_11 : decode cX14_isLine 11 = .ok (.iload_n 1, 1) := by decide +kernel
theorem dX14_isLine_12 : decode cX14_isLine 12 = .ok (.aload_n 0, 1) := by decide +kernel
theorem dX14_isLine_13 : decode cX14_isLine 13 = .ok (.getfield 16, 3) := by decide +kernel
theorem dX14_isLine_16 : decode cX14_isLine 16 = .ok (.getfield 171, 3) := by decide +kernel
theorem dX14_isLine_19 : decode cX14_isLine 19 = .ok (.if_icmp .ge 7, 3) := by decide +kernel
theorem dX14_isLine_22 : decode cX14_isLine 22 = .ok (.iconst 1, 1) := by decide +kernel
theorem dX14_isLine_23 : decode cX14_isLine 23 = .ok (.goto 4, 3) := by decide +kernel
theorem dX14_isLine_26 : decode cX14_isLine 26 = .ok (.iconst 0, 1) := by decide +kernel
theorem dX14_isLine_27 : decode cX14_isLine 27 = .ok (.ireturn, 1) := by decide +kernel
theorem dX14_function_0 : decode cX14_function 0 = .ok (.aload_n 0, 1) := by decide +kernel
theorem dX14_function_1 : decode cX14_function 1 = .ok (.iconst 0, 1) := by decide +kernel
theorem dX14_function_2 : decode cX14_function 2 = .ok (.putfield 76, 3) := by decide +kernel
theorem dX14_function_5 : decode cX14_function 5 = .ok (.aload_n 0, 1) := by decide +kernel
theorem dX14_function_6 : decode cX14_function 6 = .ok (.iload_n 1, 1) := by decide +kernel
theorem dX14_function_7 : decode cX14_function 7 = .ok (.invokevirtual 336, 3) := by decide +kernel
theorem dX14_function_10 : decode cX14_function 10 = .ok (.ifCond .ne 5, 3) := by decide +kernel
theorem dX14_function_13 : decode cX14_function 13 = .ok (.iconst (-1), 1) := by decide +kernel
theorem dX14_function_14 : decode cX14_function 14 = .ok (.ireturn, 1) := by decide +kernel
theorem dX14_function_15 : decode cX14_function 15 = .ok (.iload_n 2, 1) := by decide +kernel
theorem dX14_function_16 : decode cX14_function 16 = .ok (.tableswitch 72 0 3 #[32, 42, 52, 62], 32) := by decide +kernel
theorem dX14_function_48 : decode cX14_function 48 = .ok (.aload_n 0, 1) := by decide +kernel
theorem dX14_function_49 : decode cX14_function 49 = .ok (.getfield 16, 3) := by decide +kernel
theorem dX14_function_52 : decode cX14_function 52 = .ok (.getfield 196, 3) := by decide +kernel
theorem dX14_function_55 : decode cX14_function 55 = .ok (.iload_n 1, 1) := by decide +kernel
theorem dX14_function_56 : decode cX14_function 56 = .ok (.iaload, 1) := by decide +kernel
theorem dX14_function_57 : decode cX14_function 57 = .ok (.ireturn, 1) := by decide +kernel
theorem dX14_function_58 : decode cX14_function 58 = .ok (.aload_n 0, 1) := by decide +kernel
theorem dX14_function_59 : decode cX14_function 59 = .ok (.getfield 16, 3) := by decide +kernel
theorem dX14_function_62 : decode cX14_function 62 = .ok (.getfield 230, 3) := by decide +kernel
theorem dX14_function_65 : decode cX14_function 65 = .ok (.iload_n 1, 1) := by decide +kernel
theorem dX14_function_66 : decode cX14_function 66 = .ok (.iaload, 1) := by decide +kernel
theorem dX14_function_67 : decode cX14_function 67 = .ok (.ireturn, 1) := by decide +kernel
theorem dX14_function_68 : decode cX14_function 68 = .ok (.aload_n 0, 1) := by decide +kernel
theorem dX14_function_69 : decode cX14_function 69 = .ok (.getfield 16, 3) := by decide +kernel
theorem dX14_function_72 : decode cX14_function 72 = .ok (.getfield 237, 3) := by decide +kernel
theorem dX14_function_75 : decode cX14_function 75 = .ok (.iload_n 1, 1) := by decide +kernel
theorem dX14_function_76 : decode cX14_function 76 = .ok (.iaload, 1) := by decide +kernel
theorem dX14_function_77 : decode cX14_function 77 = .ok (.ireturn, 1) := by decide +kernel
theorem dX14_function_78 : decode cX14_function 78 = .ok (.aload_n 0, 1) := by decide +kernel
theorem dX14_function_79 : decode cX14_function 79 = .ok (.getfield 16, 3) := by decide +kernel
theorem dX14_function_82 : decode cX14_function 82 = .ok (.getfield 301, 3) := by decide +kernel
theorem dX14_function_85 : decode cX14_function 85 = .ok (.iload_n 1, 1) := by decide +kernel
theorem dX14_function_86 : decode cX14_function 86 = .ok (.iaload, 1) := by decide +kernel
theorem dX14_function_87 : decode cX14_function 87 = .ok (.ireturn, 1) := by decide +kernel
theorem dX14_function_88 : decode cX14_function 88 = .ok (.iconst (-1), 1) := by decide +kernel
theorem dX14_function_89 : decode cX14_function 89 = .ok (.ireturn, 1) := by decide +kernel
theorem dX14_name_0 : decode cX14_name 0 = .ok (.aload_n 0, 1) := by decide +kernel
theorem dX14_name_1 : decode cX14_name 1 = .ok (.aload_n 0, 1) := by decide +kernel
theorem dX14_name_2 : decode cX14_name 2 = .ok (.iload_n 1, 1) := by decide +kernel
theorem dX14_name_3 : decode cX14_name 3 = .ok (.invokevirtual 336, 3) := by decide +kernel
theorem dX14_name_6 : decode cX14_name 6 = .ok (.ifCond .eq 20, 3) := by decide +kernel
theorem dX14_name_9 : decode cX14_name 9 = .ok (.iload_n 2, 1) := by decide +kernel
theorem dX14_name_10 : decode cX14_name 10 = .ok (.ifCond .lt 16, 3) := by decide +kernel
theorem dX14_name_13 : decode cX14_name 13 = .ok (.iload_n 2, 1) := by decide +kernel
theorem dX14_name_14 : decode cX14_name 14 = .ok (.aload_n 0, 1) := by decide +kernel
theorem dX14_name_15 : decode cX14_name 15 = .ok (.getfield 16, 3) := by decide +kernel
theorem dX14_name_18 : decode cX14_name 18 = .ok (.getfield 218, 3) := by decide +kernel
theorem dX14_name_21 : decode cX14_name 21 = .ok (.iload_n 1, 1) := by decide +kernel
theorem dX14_name_22 : decode cX14_name 22 = .ok (.iaload, 1) := by decide +kernel
theorem dX14_name_23 : decode cX14_name 23 = .ok (.if_icmp .lt 7, 3) := by decide +kernel
theorem dX14_name_26 : decode cX14_name 26 = .ok (.iconst 1, 1) := by decide +kernel
theorem dX14_name_27 : decode cX14_name 27 = .ok (.goto 4, 3) := by decide +kernel
theorem dX14_name_30 : decode cX14_name 30 = .ok (.iconst 0, 1) := by decide +kernel
theorem dX14_name_31 : decode cX14_name 31 = .ok (.putfield 76, 3) := by decide +kernel
theorem dX14_name_34 : decode cX14_name 34 = .ok (.aload_n 0, 1) := by decide +kernel
theorem dX14_name_35 : decode cX14_name 35 = .ok (.getfield 76, 3) := by decide +kernel
theorem dX14_name_38 : decode cX14_name 38 = .ok (.ifCond .le 5, 3) := by decide +kernel
theorem dX14_name_41 : decode cX14_name 41 = .ok (.iconst 0, 1) := by decide +kernel
theorem dX14_name_42 : decode cX14_name 42 = .ok (.ireturn, 1) := by decide +kernel
theorem dX14_name_43 : decode cX14_name 43 = .ok (.bipush 96, 2) := by decide +kernel
theorem dX14_name_45 : decode cX14_name 45 = .ok (.aload_n 0, 1) := by decide +kernel
theorem dX14_name_46 : decode cX14_name 46 = .ok (.getfield 16, 3) := by decide +kernel
theorem dX14_name_49 : decode cX14_name 49 = .ok (.getfield 215, 3) := by decide +kernel
theorem dX14_name_52 : decode cX14_name 52 = .ok (.iload_n 1, 1) := by decide +kernel
theorem dX14_name_53 : decode cX14_name 53 = .ok (.laload, 1) := by decide +kernel
theorem dX14_name_54 : decode cX14_name 54 = .ok (.iconst 5, 1) := by decide +kernel
theorem dX14_name_55 : decode cX14_name 55 = .ok (.aload_n 0, 1) := by decide +kernel
theorem dX14_name_56 : decode cX14_name 56 = .ok (.getfield 16, 3) := by decide +kernel
theorem dX14_name_59 : decode cX14_name 59 = .ok (.getfield 218, 3) := by decide +kernel
theorem dX14_name_62 : decode cX14_name 62 = .ok (.iload_n 1, 1) := by decide +kernel
theorem dX14_name_63 : decode cX14_name 63 = .ok (.iaload, 1) := by decide +kernel
theorem dX14_name_64 : decode cX14_name 64 = .ok (.iconst 1, 1) := by decide +kernel
theorem dX14_name_65 : decode cX14_name 65 = .ok (.isub, 1) := by decide +kernel
theorem dX14_name_66 : decode cX14_name 66 = .ok (.iload_n 2, 1) := by decide +kernel
theorem dX14_name_67 : decode cX14_name 67 = .ok (.isub, 1) := by decide +kernel
theorem dX14_name_68 : decode cX14_name 68 = .ok (.imul, 1) := by decide +kernel
theorem dX14_name_69 : decode cX14_name 69 = .ok (.lshr, 1) := by decide +kernel
theorem dX14_name_70 : decode cX14_name 70 = .ok (.ldc2_w 339, 3) := by decide +kernel
theorem dX14_name_73 : decode cX14_name 73 = .ok (.land, 1) := by decide +kernel
theorem dX14_name_74 : decode cX14_name 74 = .ok (.l2i, 1) := by decide +kernel
theorem dX14_name_75 : decode cX14_name 75 = .ok (.iadd, 1) := by decide +kernel
theorem dX14_name_76 : decode cX14_name 76 = .ok (.ireturn, 1) := by decide +kernel
theorem dX14_line_0 : decode cX14_line 0 = .ok (.aload_n 0, 1) := by decide +kernel
theorem dX14_line_1 : decode cX14_line 1 = .ok (.iconst 0, 1) := by decide +kernel
theorem dX14_line_2 : decode cX14_line 2 = .ok (.putfield 76, 3) := by decide +kernel
theorem dX14_line_5 : decode cX14_line 5 = .ok (.aload_n 0, 1) := by decide +kernel
theorem dX14_line_6 : decode cX14_line 6 = .ok (.iload_n 1, 1) := by decide +kernel
theorem dX14_line_7 : decode cX14_line 7 = .ok (.invokevirtual 341, 3) := by decide +kernel
theorem dX14_line_10 : decode cX14_line 10 = .ok (.ifCond .ne 5, 3) := by decide +kernel
theorem dX14_line_13 : decode cX14_line 13 = .ok (.iconst (-1), 1) := by decide +kernel
theorem dX14_line_14 : decode cX14_line 14 = .ok (.ireturn, 1) := by decide +kernel
theorem dX14_line_15 : decode cX14_line 15 = .ok (.iload_n 2, 1) := by decide +kernel
theorem dX14_line_16 : decode cX14_line 16 = .ok (.tableswitch 72 0 3 #[32, 42, 52, 62], 32) := by decide +kernel
theorem dX14_line_48 : decode cX14_line 48 = .ok (.aload_n 0, 1) := by decide +kernel
theorem dX14_line_49 : decode cX14_line 49 = .ok (.getfield 16, 3) := by decide +kernel
theorem dX14_line_52 : decode cX14_line 52 = .ok (.getfield 248, 3) := by decide +kernel
theorem dX14_line_55 : decode cX14_line 55 = .ok (.iload_n 1, 1) := by decide +kernel
theorem dX14_line_56 : decode cX14_line 56 = .ok (.iaload, 1) := by decide +kernel
theorem dX14_line_57 : decode cX14_line 57 = .ok (.ireturn, 1) := by decide +kernel
theorem dX14_line_58 : decode cX14_line 58 = .ok (.aload_n 0, 1) := by decide +kernel
theorem dX14_line_59 : decode cX14_line 59 = .ok (.getfield 16, 3) := by decide +kernel
theorem dX14_line_62 : decode cX14_line 62 = .ok (.getfield 250, 3) := by decide +kernel
theorem dX14_line_65 : decode cX14_line 65 = .ok (.iload_n 1, 1) := by decide +kernel
theorem dX14_line_66 : decode cX14_line 66 = .ok (.iaload, 1) := by decide +kernel
theorem dX14_line_67 : decode cX14_line 67 = .ok (.ireturn, 1) := by decide +kernel
theorem dX14_line_68 : decode cX14_line 68 = .ok (.aload_n 0, 1) := by decide +kernel
theorem dX14_line_69 : decode cX14_line 69 = .ok (.getfield 16, 3) := by decide +kernel
theorem dX14_line_72 : decode cX14_line 72 = .ok (.getfield 253, 3) := by decide +kernel
theorem dX14_line_75 : decode cX14_line 75 = .ok (.iload_n 1, 1) := by decide +kernel
theorem dX14_line_76 : decode cX14_line 76 = .ok (.iaload, 1) := by decide +kernel
theorem dX14_line_77 : decode cX14_line 77 = .ok (.ireturn, 1) := by decide +kernel
theorem dX14_line_78 : decode cX14_line 78 = .ok (.aload_n 0, 1) := by decide +kernel
theorem dX14_line_79 : decode cX14_line 79 = .ok (.getfield 16, 3) := by decide +kernel
theorem dX14_line_82 : decode cX14_line 82 = .ok (.getfield 255, 3) := by decide +kernel
theorem dX14_line_85 : decode cX14_line 85 = .ok (.iload_n 1, 1) := by decide +kernel
theorem dX14_line_86 : decode cX14_line 86 = .ok (.iaload, 1) := by decide +kernel
theorem dX14_line_87 : decode cX14_line 87 = .ok (.ireturn, 1) := by decide +kernel
theorem dX14_line_88 : decode cX14_line 88 = .ok (.iconst (-1), 1) := by decide +kernel
theorem dX14_line_89 : decode cX14_line 89 = .ok (.ireturn, 1) := by decide +kernel
theorem dX14_run_0 : decode cX14_run 0 = .ok (.aload_n 0, 1) := by decide +kernel
theorem dX14_run_1 : decode cX14_run 1 = .ok (.iconst 0, 1) := by decide +kernel
theorem dX14_run_2 : decode cX14_run 2 = .ok (.putfield 76, 3) := by decide +kernel
theorem dX14_run_5 : decode cX14_run 5 = .ok (.aload_n 0, 1) := by decide +kernel
theorem dX14_run_6 : decode cX14_run 6 = .ok (.iload_n 1, 1) := by decide +kernel
theorem dX14_run_7 : decode cX14_run 7 = .ok (.invokevirtual 336, 3) := by decide +kernel
theorem dX14_run_10 : decode cX14_run 10 = .ok (.ifCond .ne 9, 3) := by decide +kernel
theorem dX14_run_13 : decode cX14_run 13 = .ok (.aload_n 0, 1) := by decide +kernel
theorem dX14_run_14 : decode cX14_run 14 = .ok (.iconst 1, 1) := by decide +kernel
theorem dX14_run_15 : decode cX14_run 15 = .ok (.invokevirtual 307, 3) := by decide +kernel
theorem dX14_run_18 : decode cX14_run 18 = .ok (.ireturn, 1) := by decide +kernel
theorem dX14_run_19 : decode cX14_run 19 = .ok (.iload 5, 2) := by decide +kernel
theorem dX14_run_21 : decode cX14_run 21 = .ok (.iconst 1, 1) := by decide +kernel
theorem dX14_run_22 : decode cX14_run 22 = .ok (.sipush 2000, 3) := by decide +kernel
theorem dX14_run_25 : decode cX14_run 25 = .ok (.invokestatic 407, 3) := by decide +kernel
theorem dX14_run_28 : decode cX14_run 28 = .ok (.ifCond .ne 9, 3) := by decide +kernel
theorem dX14_run_31 : decode cX14_run 31 = .ok (.aload_n 0, 1) := by decide +kernel
theorem dX14_run_32 : decode cX14_run 32 = .ok (.iconst 2, 1) := by decide +kernel
theorem dX14_run_33 : decode cX14_run 33 = .ok (.invokevirtual 307, 3) := by decide +kernel
theorem dX14_run_36 : decode cX14_run 36 = .ok (.ireturn, 1) := by decide +kernel
theorem dX14_run_37 : decode cX14_run 37 = .ok (.aload_n 0, 1) := by decide +kernel
theorem dX14_run_38 : decode cX14_run 38 = .ok (.iload_n 1, 1) := by decide +kernel
theorem dX14_run_39 : decode cX14_run 39 = .ok (.iload_n 2, 1) := by decide +kernel
theorem dX14_run_40 : decode cX14_run 40 = .ok (.iload_n 3, 1) := by decide +kernel
theorem dX14_run_41 : decode cX14_run 41 = .ok (.iload 4, 2) := by decide +kernel
theorem dX14_run_43 : decode cX14_run 43 = .ok (.iload 5, 2) := by decide +kernel
theorem dX14_run_45 : decode cX14_run 45 = .ok (.iconst (-1), 1) := by decide +kernel
theorem dX14_run_46 : decode cX14_run 46 = .ok (.invokevirtual 411, 3) := by decide +kernel
theorem dX14_run_49 : decode cX14_run 49 = .ok (.aload_n 0, 1) := by decide +kernel
theorem dX14_run_50 : decode cX14_run 50 = .ok (.getfield 40, 3) := by decide +kernel
theorem dX14_run_53 : decode cX14_run 53 = .ok (.astore 6, 2) := by decide +kernel
theorem dX14_run_55 : decode cX14_run 55 = .ok (.aload_n 0, 1) := by decide +kernel
theorem dX14_run_56 : decode cX14_run 56 = .ok (.aload_n 0, 1) := by decide +kernel
theorem dX14_run_57 : decode cX14_run 57 = .ok (.getfield 44, 3) := by decide +kernel
theorem dX14_run_60 : decode cX14_run 60 = .ok (.putfield 40, 3) := by decide +kernel
theorem dX14_run_63 : decode cX14_run 63 = .ok (.aload_n 0, 1) := by decide +kernel
theorem dX14_run_64 : decode cX14_run 64 = .ok (.aload 6, 2) := by decide +kernel
theorem dX14_run_66 : decode cX14_run 66 = .ok (.putfield 44, 3) := by decide +kernel
theorem dX14_run_69 : decode cX14_run 69 = .ok (.aload_n 0, 1) := by decide +kernel
theorem dX14_run_70 : decode cX14_run 70 = .ok (.iconst 1, 1) := by decide +kernel
theorem dX14_run_71 : decode cX14_run 71 = .ok (.putfield 330, 3) := by decide +kernel
theorem dX14_run_74 : decode cX14_run 74 = .ok (.aload_n 0, 1) := by decide +kernel
theorem dX14_run_75 : decode cX14_run 75 = .ok (.aload_n 0, 1) := by decide +kernel
theorem dX14_run_76 : decode cX14_run 76 = .ok (.getfield 40, 3) := by decide +kernel
theorem dX14_run_79 : decode cX14_run 79 = .ok (.getfield 350, 3) := by decide +kernel
theorem dX14_run_82 : decode cX14_run 82 = .ok (.invokevirtual 333, 3) := by decide +kernel
theorem dX14_run_85 : decode cX14_run 85 = .ok (.ireturn, 1) := by decide +kernel
theorem dX14_lines_0 : decode cX14_lines 0 = .ok (.iconst 0, 1) := by decide +kernel
theorem dX14_lines_1 : decode cX14_lines 1 = .ok (.istore_n 2, 1) := by decide +kernel
theorem dX14_lines_2 : decode cX14_lines 2 = .ok (.iconst 0, 1) := by decide +kernel
theorem dX14_lines_3 : decode cX14_lines 3 = .ok (.istore_n 3, 1) := by decide +kernel
theorem dX14_lines_4 : decode cX14_lines 4 = .ok (.iload_n 3, 1) := by decide +kernel
theorem dX14_lines_5 : decode cX14_lines 5 = .ok (.bipush 60, 2) := by decide +kernel
theorem dX14_lines_7 : decode cX14_lines 7 = .ok (.if_icmp .ge 27, 3) := by decide +kernel
theorem dX14_lines_10 : decode cX14_lines 10 = .ok (.iload_n 2, 1) := by decide +kernel
theorem dX14_lines_11 : decode cX14_lines 11 = .ok (.lload_n 0, 1) := by decide +kernel
theorem dX14_lines_12 : decode cX14_lines 12 = .ok (.iload_n 3, 1) := by decide +kernel
theorem dX14_lines_13 : decode cX14_lines 13 = .ok (.lshr, 1) := by decide +kernel
theorem dX14_lines_14 : decode cX14_lines 14 = .ok (.lconst 1, 1) := by decide +kernel
theorem dX14_lines_15 : decode cX14_lines 15 = .ok (.land, 1) := by decide +kernel
theorem dX14_lines_16 : decode cX14_lines 16 = .ok (.lconst 1, 1) := by decide +kernel
theorem dX14_lines_17 : decode cX14_lines 17 = .ok (.lcmp, 1) := by decide +kernel
theorem dX14_lines_18 : decode cX14_lines 18 = .ok (.ifCond .ne 7, 3) := by decide +kernel
theorem dX14_lines_21 : decode cX14_lines 21 = .ok (.iconst 1, 1) := by decide +kernel
theorem dX14_lines_22 : decode cX14_lines 22 = .ok (.goto 4, 3) := by decide +kernel
theorem dX14_lines_25 : decode cX14_lines 25 = .ok (.iconst 0, 1) := by decide +kernel
theorem dX14_lines_26 : decode cX14_lines 26 = .ok (.iadd, 1) := by decide +kernel
theorem dX14_lines_27 : decode cX14_lines 27 = .ok (.istore_n 2, 1) := by decide +kernel
theorem dX14_lines_28 : decode cX14_lines 28 = .ok (.iinc 3 1, 3) := by decide +kernel
theorem dX14_lines_31 : decode cX14_lines 31 = .ok (.goto (-27), 3) := by decide +kernel
theorem dX14_lines_34 : decode cX14_lines 34 = .ok (.iload_n 2, 1) := by decide +kernel
theorem dX14_lines_35 : decode cX14_lines 35 = .ok (.ireturn, 1) := by decide +kernel
theorem dX14_ran_0 : decode cX14_ran 0 = .ok (.aload_n 0, 1) := by decide +kernel
theorem dX14_ran_1 : decode cX14_ran 1 = .ok (.iconst 0, 1) := by decide +kernel
theorem dX14_ran_2 : decode cX14_ran 2 = .ok (.putfield 76, 3) := by decide +kernel
theorem dX14_ran_5 : decode cX14_ran 5 = .ok (.aload_n 0, 1) := by decide +kernel
theorem dX14_ran_6 : decode cX14_ran 6 = .ok (.getfield 330, 3) := by decide +kernel
theorem dX14_ran_9 : decode cX14_ran 9 = .ok (.ifCond .ne 9, 3) := by decide +kernel
theorem dX14_ran_12 : decode cX14_ran 12 = .ok (.aload_n 0, 1) := by decide +kernel
theorem dX14_ran_13 : decode cX14_ran 13 = .ok (.iconst 5, 1) := by decide +kernel
theorem dX14_ran_14 : decode cX14_ran 14 = .ok (.invokevirtual 307, 3) := by decide +kernel
theorem dX14_ran_17 : decode cX14_ran 17 = .ok (.ireturn, 1) := by decide +kernel
theorem dX14_ran_18 : decode cX14_ran 18 = .ok (.iload_n 1, 1) := by decide +kernel
theorem dX14_ran_19 : decode cX14_ran 19 = .ok (.tableswitch 112 0 5 #[37, 49, 61, 73, 85, 100], 37) := by decide +kernel
theorem dX14_ran_56 : decode cX14_ran 56 = .ok (.aload_n 0, 1) := by decide +kernel
theorem dX14_ran_57 : decode cX14_ran 57 = .ok (.aload_n 0, 1) := by decide +kernel
theorem dX14_ran_58 : decode cX14_ran 58 = .ok (.getfield 40, 3) := by decide +kernel
theorem dX14_ran_61 : decode cX14_ran 61 = .ok (.getfield 352, 3) := by decide +kernel
theorem dX14_ran_64 : decode cX14_ran 64 = .ok (.invokevirtual 333, 3) := by decide +kernel
theorem dX14_ran_67 : decode cX14_ran 67 = .ok (.ireturn, 1) := by decide +kernel
theorem dX14_ran_68 : decode cX14_ran 68 = .ok (.aload_n 0, 1) := by decide +kernel
theorem dX14_ran_69 : decode cX14_ran 69 = .ok (.aload_n 0, 1) := by decide +kernel
theorem dX14_ran_70 : decode cX14_ran 70 = .ok (.getfield 40, 3) := by decide +kernel
theorem dX14_ran_73 : decode cX14_ran 73 = .ok (.getfield 354, 3) := by decide +kernel
theorem dX14_ran_76 : decode cX14_ran 76 = .ok (.invokevirtual 333, 3) := by decide +kernel
theorem dX14_ran_79 : decode cX14_ran 79 = .ok (.ireturn, 1) := by decide +kernel
theorem dX14_ran_80 : decode cX14_ran 80 = .ok (.aload_n 0, 1) := by decide +kernel
theorem dX14_ran_81 : decode cX14_ran 81 = .ok (.aload_n 0, 1) := by decide +kernel
theorem dX14_ran_82 : decode cX14_ran 82 = .ok (.getfield 40, 3) := by decide +kernel
theorem dX14_ran_85 : decode cX14_ran 85 = .ok (.getfield 357, 3) := by decide +kernel
theorem dX14_ran_88 : decode cX14_ran 88 = .ok (.invokevirtual 333, 3) := by decide +kernel
theorem dX14_ran_91 : decode cX14_ran 91 = .ok (.ireturn, 1) := by decide +kernel
theorem dX14_ran_92 : decode cX14_ran 92 = .ok (.aload_n 0, 1) := by decide +kernel
theorem dX14_ran_93 : decode cX14_ran 93 = .ok (.aload_n 0, 1) := by decide +kernel
theorem dX14_ran_94 : decode cX14_ran 94 = .ok (.getfield 40, 3) := by decide +kernel
theorem dX14_ran_97 : decode cX14_ran 97 = .ok (.getfield 360, 3) := by decide +kernel
theorem dX14_ran_100 : decode cX14_ran 100 = .ok (.invokevirtual 333, 3) := by decide +kernel
theorem dX14_ran_103 : decode cX14_ran 103 = .ok (.ireturn, 1) := by decide +kernel
theorem dX14_ran_104 : decode cX14_ran 104 = .ok (.aload_n 0, 1) := by decide +kernel
theorem dX14_ran_105 : decode cX14_ran 105 = .ok (.aload_n 0, 1) := by decide +kernel
theorem dX14_ran_106 : decode cX14_ran 106 = .ok (.getfield 40, 3) := by decide +kernel
theorem dX14_ran_109 : decode cX14_ran 109 = .ok (.getfield 366, 3) := by decide +kernel
theorem dX14_ran_112 : decode cX14_ran 112 = .ok (.invokestatic 414, 3) := by decide +kernel
theorem dX14_ran_115 : decode cX14_ran 115 = .ok (.invokevirtual 333, 3) := by decide +kernel
theorem dX14_ran_118 : decode cX14_ran 118 = .ok (.ireturn, 1) := by decide +kernel
theorem dX14_ran_119 : decode cX14_ran 119 = .ok (.aload_n 0, 1) := by decide +kernel
theorem dX14_ran_120 : decode cX14_ran 120 = .ok (.aload_n 0, 1) := by decide +kernel
theorem dX14_ran_121 : decode cX14_ran 121 = .ok (.getfield 40, 3) := by decide +kernel
theorem dX14_ran_124 : decode cX14_ran 124 = .ok (.getfield 363, 3) := by decide +kernel
theorem dX14_ran_127 : decode cX14_ran 127 = .ok (.invokevirtual 333, 3) := by decide +kernel
theorem dX14_ran_130 : decode cX14_ran 130 = .ok (.ireturn, 1) := by decide +kernel
theorem dX14_ran_131 : decode cX14_ran 131 = .ok (.aload_n 0, 1) := by decide +kernel
theorem dX14_ran_132 : decode cX14_ran 132 = .ok (.iconst 2, 1) := by decide +kernel
theorem dX14_ran_133 : decode cX14_ran 133 = .ok (.invokevirtual 307, 3) := by decide +kernel
theorem dX14_ran_136 : decode cX14_ran 136 = .ok (.ireturn, 1) := by decide +kernel
theorem dX14_said_0 : decode cX14_said 0 = .ok (.aload_n 0, 1) := by decide +kernel
theorem dX14_said_1 : decode cX14_said 1 = .ok (.aload_n 0, 1) := by decide +kernel
theorem dX14_said_2 : decode cX14_said 2 = .ok (.getfield 330, 3) := by decide +kernel
theorem dX14_said_5 : decode cX14_said 5 = .ok (.ifCond .eq 23, 3) := by decide +kernel
theorem dX14_said_8 : decode cX14_said 8 = .ok (.iload_n 1, 1) := by decide +kernel
theorem dX14_said_9 : decode cX14_said 9 = .ok (.ifCond .lt 19, 3) := by decide +kernel
theorem dX14_said_12 : decode cX14_said 12 = .ok (.iload_n 1, 1) := by decide +kernel
theorem dX14_said_13 : decode cX14_said 13 = .ok (.aload_n 0, 1) := by decide +kernel
theorem dX14_said_14 : decode cX14_said 14 = .ok (.getfield 40, 3) := by decide +kernel
theorem dX14_said_17 : decode cX14_said 17 = .ok (.getfield 357, 3) := by decide +kernel
theorem dX14_said_20 : decode cX14_said 20 = .ok (.bipush 60, 2) := by decide +kernel
theorem dX14_said_22 : decode cX14_said 22 = .ok (.invokestatic 416, 3) := by decide +kernel
theorem dX14_said_25 : decode cX14_said 25 = .ok (.if_icmp .lt 7, 3) := by decide +kernel
theorem dX14_said_28 : decode cX14_said 28 = .ok (.iconst 1, 1) := by decide +kernel
theorem dX14_said_29 : decode cX14_said 29 = .ok (.goto 4, 3) := by decide +kernel
theorem dX14_said_32 : decode cX14_said 32 = .ok (.iconst 0, 1) := by decide +kernel
theorem dX14_said_33 : decode cX14_said 33 = .ok (.putfield 76, 3) := by decide +kernel
theorem dX14_said_36 : decode cX14_said 36 = .ok (.aload_n 0, 1) := by decide +kernel
theorem dX14_said_37 : decode cX14_said 37 = .ok (.getfield 76, 3) := by decide +kernel
theorem dX14_said_40 : decode cX14_said 40 = .ok (.ifCond .le 7, 3) := by decide +kernel
theorem dX14_said_43 : decode cX14_said 43 = .ok (.iconst 0, 1) := by decide +kernel
theorem dX14_said_44 : decode cX14_said 44 = .ok (.goto 12, 3) := by decide +kernel
theorem dX14_said_47 : decode cX14_said 47 = .ok (.aload_n 0, 1) := by decide +kernel
theorem dX14_said_48 : decode cX14_said 48 = .ok (.getfield 40, 3) := by decide +kernel
theorem dX14_said_51 : decode cX14_said 51 = .ok (.getfield 397, 3) := by decide +kernel
theorem dX14_said_54 : decode cX14_said 54 = .ok (.iload_n 1, 1) := by decide +kernel
theorem dX14_said_55 : decode cX14_said 55 = .ok (.iaload, 1) := by decide +kernel
theorem dX14_said_56 : decode cX14_said 56 = .ok (.ireturn, 1) := by decide +kernel
theorem dX14_trace_0 : decode cX14_trace 0 = .ok (.aload_n 0, 1) := by decide +kernel
theorem dX14_trace_1 : decode cX14_trace 1 = .ok (.aload_n 0, 1) := by decide +kernel
theorem dX14_trace_2 : decode cX14_trace 2 = .ok (.getfield 330, 3) := by decide +kernel
theorem dX14_trace_5 : decode cX14_trace 5 = .ok (.ifCond .eq 33, 3) := by decide +kernel
theorem dX14_trace_8 : decode cX14_trace 8 = .ok (.iload_n 1, 1) := by decide +kernel
theorem dX14_trace_9 : decode cX14_trace 9 = .ok (.ifCond .lt 29, 3) := by decide +kernel
theorem dX14_trace_12 : decode cX14_trace 12 = .ok (.iload_n 1, 1) := by decide +kernel
theorem dX14_trace_13 : decode cX14_trace 13 = .ok (.aload_n 0, 1) := by decide +kernel
theorem dX14_trace_14 : decode cX14_trace 14 = .ok (.getfield 40, 3) := by decide +kernel
theorem dX14_trace_17 : decode cX14_trace 17 = .ok (.getfield 360, 3) := by decide +kernel
theorem dX14_trace_20 : decode cX14_trace 20 = .ok (.sipush 400, 3) := by decide +kernel
theorem dX14_trace_23 : decode cX14_trace 23 = .ok (.invokestatic 416, 3) := by decide +kernel
theorem dX14_trace_26 : decode cX14_trace 26 = .ok (.if_icmp .ge 12, 3) := by decide +kernel
theorem dX14_trace_29 : decode cX14_trace 29 = .ok (.iload_n 2, 1) := by decide +kernel
theorem dX14_trace_30 : decode cX14_trace 30 = .ok (.iconst 0, 1) := by decide +kernel
theorem dX14_trace_31 : decode cX14_trace 31 = .ok (.iconst 3, 1) := by decide +kernel
theorem dX14_trace_32 : decode cX14_trace 32 = .ok (.invokestatic 407, 3) := by decide +kernel
theorem dX14_trace_35 : decode cX14_trace 35 = .ok (.ifCond .ne 7, 3) := by decide +kernel
theorem dX14_trace_38 : decode cX14_trace 38 = .ok (.iconst 1, 1) := by decide +kernel
theorem dX14_trace_39 : decode cX14_trace 39 = .ok (.goto 4, 3) := by decide +kernel
theorem dX14_trace_42 : decode cX14_trace 42 = .ok (.iconst 0, 1) := by decide +kernel
theorem dX14_trace_43 : decode cX14_trace 43 = .ok (.putfield 76, 3) := by decide +kernel
theorem dX14_trace_46 : decode cX14_trace 46 = .ok (.aload_n 0, 1) := by decide +kernel
theorem dX14_trace_47 : decode cX14_trace 47 = .ok (.getfield 76, 3) := by decide +kernel
theorem dX14_trace_50 : decode cX14_trace 50 = .ok (.ifCond .le 7, 3) := by decide +kernel
theorem dX14_trace_53 : decode cX14_trace 53 = .ok (.iconst 0, 1) := by decide +kernel
theorem dX14_trace_54 : decode cX14_trace 54 = .ok (.goto 16, 3) := by decide +kernel
theorem dX14_trace_57 : decode cX14_trace 57 = .ok (.aload_n 0, 1) := by decide +kernel
theorem dX14_trace_58 : decode cX14_trace 58 = .ok (.getfield 40, 3) := by decide +kernel
theorem dX14_trace_61 : decode cX14_trace 61 = .ok (.getfield 400, 3) := by decide +kernel
theorem dX14_trace_64 : decode cX14_trace 64 = .ok (.iconst 4, 1) := by decide +kernel
theorem dX14_trace_65 : decode cX14_trace 65 = .ok (.iload_n 1, 1) := by decide +kernel
theorem dX14_trace_66 : decode cX14_trace 66 = .ok (.imul, 1) := by decide +kernel
theorem dX14_trace_67 : decode cX14_trace 67 = .ok (.iload_n 2, 1) := by decide +kernel
theorem dX14_trace_68 : decode cX14_trace 68 = .ok (.iadd, 1) := by decide +kernel
theorem dX14_trace_69 : decode cX14_trace 69 = .ok (.iaload, 1) := by decide +kernel
theorem dX14_trace_70 : decode cX14_trace 70 = .ok (.ireturn, 1) := by decide +kernel
theorem dX14_covered_0 : decode cX14_covered 0 = .ok (.aload_n 0, 1) := by decide +kernel
theorem dX14_covered_1 : decode cX14_covered 1 = .ok (.iconst 0, 1) := by decide +kernel
theorem dX14_covered_2 : decode cX14_covered 2 = .ok (.putfield 76, 3) := by decide +kernel
theorem dX14_covered_5 : decode cX14_covered 5 = .ok (.aload_n 0, 1) := by decide +kernel
theorem dX14_covered_6 : decode cX14_covered 6 = .ok (.getfield 330, 3) := by decide +kernel
theorem dX14_covered_9 : decode cX14_covered 9 = .ok (.ifCond .eq 26, 3) := by decide +kernel
theorem dX14_covered_12 : decode cX14_covered 12 = .ok (.aload_n 0, 1) := by decide +kernel
theorem dX14_covered_13 : decode cX14_covered 13 = .ok (.iload_n 1, 1) := by decide +kernel
theorem dX14_covered_14 : decode cX14_covered 14 = .ok (.invokevirtual 341, 3) := by decide +kernel
theorem dX14_covered_17 : decode cX14_covered 17 = .ok (.ifCond .eq 18, 3) := by decide +kernel
theorem dX14_covered_20 : decode cX14_covered 20 = .ok (.aload_n 0, 1) := by decide +kernel
theorem dX14_covered_21 : decode cX14_covered 21 = .ok (.getfield 40, 3) := by decide +kernel
theorem dX14_covered_24 : decode cX14_covered 24 = .ok (.getfield 366, 3) := by decide +kernel
theorem dX14_covered_27 : decode cX14_covered 27 = .ok (.iload_n 1, 1) := by decide +kernel
theorem dX14_covered_28 : decode cX14_covered 28 = .ok (.lshr, 1) := by decide +kernel
theorem dX14_covered_29 : decode cX14_covered 29 = .ok (.lconst 1, 1) := by decide +kernel
theorem dX14_covered_30 : decode cX14_covered 30 = .ok (.land, 1) := by decide +kernel
theorem dX14_covered_31 : decode cX14_covered 31 = .ok (.l2i, 1) := by decide +kernel
theorem dX14_covered_32 : decode cX14_covered 32 = .ok (.goto 4, 3) := by decide +kernel
theorem dX14_covered_35 : decode cX14_covered 35 = .ok (.iconst (-1), 1) := by decide +kernel
theorem dX14_covered_36 : decode cX14_covered 36 = .ok (.ireturn, 1) := by decide +kernel
theorem dX14_place_0 : decode cX14_place 0 = .ok (.aload_n 0, 1) := by decide +kernel
theorem dX14_place_1 : decode cX14_place 1 = .ok (.iconst 0, 1) := by decide +kernel
theorem dX14_place_2 : decode cX14_place 2 = .ok (.putfield 76, 3) := by decide +kernel
theorem dX14_place_5 : decode cX14_place 5 = .ok (.aload_n 0, 1) := by decide +kernel
theorem dX14_place_6 : decode cX14_place 6 = .ok (.getfield 330, 3) := by decide +kernel
theorem dX14_place_9 : decode cX14_place 9 = .ok (.ifCond .ne 9, 3) := by decide +kernel
theorem dX14_place_12 : decode cX14_place 12 = .ok (.aload_n 0, 1) := by decide +kernel
theorem dX14_place_13 : decode cX14_place 13 = .ok (.iconst 5, 1) := by decide +kernel
theorem dX14_place_14 : decode cX14_place 14 = .ok (.invokevirtual 307, 3) := by decide +kernel
theorem dX14_place_17 : decode cX14_place 17 = .ok (.ireturn, 1) := by decide +kernel
theorem dX14_place_18 : decode cX14_place 18 = .ok (.iload_n 1, 1) := by decide +kernel
theorem dX14_place_19 : decode cX14_place 19 = .ok (.iconst 0, 1) := by decide +kernel
theorem dX14_place_20 : decode cX14_place 20 = .ok (.bipush 7, 2) := by decide +kernel
theorem dX14_place_22 : decode cX14_place 22 = .ok (.invokestatic 407, 3) := by decide +kernel
theorem dX14_place_25 : decode cX14_place 25 = .ok (.ifCond .eq 19, 3) := by decide +kernel
theorem dX14_place_28 : decode cX14_place 28 = .ok (.aload_n 0, 1) := by decide +kernel
theorem dX14_place_29 : decode cX14_place 29 = .ok (.aload_n 0, 1) := by decide +kernel
theorem dX14_place_30 : decode cX14_place 30 = .ok (.getfield 40, 3) := by decide +kernel
theorem dX14_place_33 : decode cX14_place 33 = .ok (.getfield 382, 3) := by decide +kernel
theorem dX14_place_36 : decode cX14_place 36 = .ok (.iload_n 1, 1) := by decide +kernel
theorem dX14_place_37 : decode cX14_place 37 = .ok (.iaload, 1) := by decide +kernel
theorem dX14_place_38 : decode cX14_place 38 = .ok (.invokevirtual 333, 3) := by decide +kernel
theorem dX14_place_41 : decode cX14_place 41 = .ok (.goto 8, 3) := by decide +kernel
theorem dX14_place_44 : decode cX14_place 44 = .ok (.aload_n 0, 1) := by decide +kernel
theorem dX14_place_45 : decode cX14_place 45 = .ok (.iconst 2, 1) := by decide +kernel
theorem dX14_place_46 : decode cX14_place 46 = .ok (.invokevirtual 307, 3) := by decide +kernel
theorem dX14_place_49 : decode cX14_place 49 = .ok (.ireturn, 1) := by decide +kernel
theorem dX14_wrong_0 : decode cX14_wrong 0 = .ok (.aload_n 0, 1) := by decide +kernel
theorem dX14_wrong_1 : decode cX14_wrong 1 = .ok (.iconst 0, 1) := by decide +kernel
theorem dX14_wrong_2 : decode cX14_wrong 2 = .ok (.putfield 76, 3) := by decide +kernel
theorem dX14_wrong_5 : decode cX14_wrong 5 = .ok (.aload_n 0, 1) := by decide +kernel
theorem dX14_wrong_6 : decode cX14_wrong 6 = .ok (.iload_n 2, 1) := by decide +kernel
theorem dX14_wrong_7 : decode cX14_wrong 7 = .ok (.invokevirtual 336, 3) := by decide +kernel
theorem dX14_wrong_10 : decode cX14_wrong 10 = .ok (.ifCond .ne 9, 3) := by decide +kernel
theorem dX14_wrong_13 : decode cX14_wrong 13 = .ok (.aload_n 0, 1) := by decide +kernel
theorem dX14_wrong_14 : decode cX14_wrong 14 = .ok (.iconst 1, 1) := by decide +kernel
theorem dX14_wrong_15 : decode cX14_wrong 15 = .ok (.invokevirtual 307, 3) := by decide +kernel
theorem dX14_wrong_18 : decode cX14_wrong 18 = .ok (.ireturn, 1) := by decide +kernel
theorem dX14_wrong_19 : decode cX14_wrong 19 = .ok (.iload_n 1, 1) := by decide +kernel
theorem dX14_wrong_20 : decode cX14_wrong 20 = .ok (.iconst 0, 1) := by decide +kernel
theorem dX14_wrong_21 : decode cX14_wrong 21 = .ok (.iconst 3, 1) := by decide +kernel
theorem dX14_wrong_22 : decode cX14_wrong 22 = .ok (.invokestatic 407, 3) := by decide +kernel
theorem dX14_wrong_25 : decode cX14_wrong 25 = .ok (.ifCond .ne 9, 3) := by decide +kernel
theorem dX14_wrong_28 : decode cX14_wrong 28 = .ok (.aload_n 0, 1) := by decide +kernel
theorem dX14_wrong_29 : decode cX14_wrong 29 = .ok (.iconst 2, 1) := by decide +kernel
theorem dX14_wrong_30 : decode cX14_wrong 30 = .ok (.invokevirtual 307, 3) := by decide +kernel
theorem dX14_wrong_33 : decode cX14_wrong 33 = .ok (.ireturn, 1) := by decide +kernel
theorem dX14_wrong_34 : decode cX14_wrong 34 = .ok (.aload_n 0, 1) := by decide +kernel
theorem dX14_wrong_35 : decode cX14_wrong 35 = .ok (.iload_n 2, 1) := by decide +kernel
theorem dX14_wrong_36 : decode cX14_wrong 36 = .ok (.iload_n 3, 1) := by decide +kernel
theorem dX14_wrong_37 : decode cX14_wrong 37 = .ok (.iload 4, 2) := by decide +kernel
theorem dX14_wrong_39 : decode cX14_wrong 39 = .ok (.iload 5, 2) := by decide +kernel
theorem dX14_wrong_41 : decode cX14_wrong 41 = .ok (.sipush 2000, 3) := by decide +kernel
theorem dX14_wrong_44 : decode cX14_wrong 44 = .ok (.iload_n 1, 1) := by decide +kernel
theorem dX14_wrong_45 : decode cX14_wrong 45 = .ok (.invokevirtual 411, 3) := by decide +kernel
theorem dX14_wrong_48 : decode cX14_wrong 48 = .ok (.aload_n 0, 1) := by decide +kernel
theorem dX14_wrong_49 : decode cX14_wrong 49 = .ok (.aload_n 0, 1) := by decide +kernel
theorem dX14_wrong_50 : decode cX14_wrong 50 = .ok (.getfield 44, 3) := by decide +kernel
theorem dX14_wrong_53 : decode cX14_wrong 53 = .ok (.getfield 352, 3) := by decide +kernel
theorem dX14_wrong_56 : decode cX14_wrong 56 = .ok (.invokevirtual 333, 3) := by decide +kernel
theorem dX14_wrong_59 : decode cX14_wrong 59 = .ok (.ireturn, 1) := by decide +kernel
theorem dX14_unlike_0 : decode cX14_unlike 0 = .ok (.aload_n 0, 1) := by decide +kernel
theorem dX14_unlike_1 : decode cX14_unlike 1 = .ok (.iconst 0, 1) := by decide +kernel
theorem dX14_unlike_2 : decode cX14_unlike 2 = .ok (.putfield 76, 3) := by decide +kernel
theorem dX14_unlike_5 : decode cX14_unlike 5 = .ok (.aload_n 0, 1) := by decide +kernel
theorem dX14_unlike_6 : decode cX14_unlike 6 = .ok (.iload_n 1, 1) := by decide +kernel
theorem dX14_unlike_7 : decode cX14_unlike 7 = .ok (.invokevirtual 336, 3) := by decide +kernel
theorem dX14_unlike_10 : decode cX14_unlike 10 = .ok (.ifCond .ne 9, 3) := by decide +kernel
theorem dX14_unlike_13 : decode cX14_unlike 13 = .ok (.aload_n 0, 1) := by decide +kernel
theorem dX14_unlike_14 : decode cX14_unlike 14 = .ok (.iconst 1, 1) := by decide +kernel
theorem dX14_unlike_15 : decode cX14_unlike 15 = .ok (.invokevirtual 307, 3) := by decide +kernel
theorem dX14_unlike_18 : decode cX14_unlike 18 = .ok (.ireturn, 1) := by decide +kernel
theorem dX14_unlike_19 : decode cX14_unlike 19 = .ok (.aload_n 0, 1) := by decide +kernel
theorem dX14_unlike_20 : decode cX14_unlike 20 = .ok (.iload_n 1, 1) := by decide +kernel
theorem dX14_unlike_21 : decode cX14_unlike 21 = .ok (.iload_n 2, 1) := by decide +kernel
theorem dX14_unlike_22 : decode cX14_unlike 22 = .ok (.iload_n 3, 1) := by decide +kernel
theorem dX14_unlike_23 : decode cX14_unlike 23 = .ok (.iload 4, 2) := by decide +kernel
theorem dX14_unlike_25 : decode cX14_unlike 25 = .ok (.sipush 2000, 3) := by decide +kernel
theorem dX14_unlike_28 : decode cX14_unlike 28 = .ok (.iconst (-1), 1) := by decide +kernel
theorem dX14_unlike_29 : decode cX14_unlike 29 = .ok (.invokevirtual 411, 3) := by decide +kernel
theorem dX14_unlike_32 : decode cX14_unlike 32 = .ok (.aload_n 0, 1) := by decide +kernel
theorem dX14_unlike_33 : decode cX14_unlike 33 = .ok (.getfield 44, 3) := by decide +kernel
theorem dX14_unlike_36 : decode cX14_unlike 36 = .ok (.getfield 350, 3) := by decide +kernel
theorem dX14_unlike_39 : decode cX14_unlike 39 = .ok (.istore 5, 2) := by decide +kernel
theorem dX14_unlike_41 : decode cX14_unlike 41 = .ok (.aload_n 0, 1) := by decide +kernel
theorem dX14_unlike_42 : decode cX14_unlike 42 = .ok (.getfield 44, 3) := by decide +kernel
theorem dX14_unlike_45 : decode cX14_unlike 45 = .ok (.getfield 352, 3) := by decide +kernel
theorem dX14_unlike_48 : decode cX14_unlike 48 = .ok (.istore 6, 2) := by decide +kernel
theorem dX14_unlike_50 : decode cX14_unlike 50 = .ok (.aload_n 0, 1) := by decide +kernel
theorem dX14_unlike_51 : decode cX14_unlike 51 = .ok (.getfield 44, 3) := by decide +kernel
theorem dX14_unlike_54 : decode cX14_unlike 54 = .ok (.getfield 357, 3) := by decide +kernel
theorem dX14_unlike_57 : decode cX14_unlike 57 = .ok (.istore 7, 2) := by decide +kernel
theorem dX14_unlike_59 : decode cX14_unlike 59 = .ok (.iconst 0, 1) := by decide +kernel
theorem dX14_unlike_60 : decode cX14_unlike 60 = .ok (.istore 8, 2) := by decide +kernel
theorem dX14_unlike_62 : decode cX14_unlike 62 = .ok (.iload 8, 2) := by decide +kernel
theorem dX14_unlike_64 : decode cX14_unlike 64 = .ok (.bipush 60, 2) := by decide +kernel
theorem dX14_unlike_66 : decode cX14_unlike 66 = .ok (.if_icmp .ge 26, 3) := by decide +kernel
theorem dX14_unlike_69 : decode cX14_unlike 69 = .ok (.aload_n 0, 1) := by decide +kernel
theorem dX14_unlike_70 : decode cX14_unlike 70 = .ok (.getfield 51, 3) := by decide +kernel
theorem dX14_unlike_73 : decode cX14_unlike 73 = .ok (.iload 8, 2) := by decide +kernel
theorem dX14_unlike_75 : decode cX14_unlike 75 = .ok (.aload_n 0, 1) := by decide +kernel
theorem dX14_unlike_76 : decode cX14_unlike 76 = .ok (.getfield 44, 3) := by decide +kernel
theorem dX14_unlike_79 : decode cX14_unlike 79 = .ok (.getfield 397, 3) := by decide +kernel
theorem dX14_unlike_82 : decode cX14_unlike 82 = .ok (.iload 8, 2) := by decide +kernel
theorem dX14_unlike_84 : decode cX14_unlike 84 = .ok (.iaload, 1) := by decide +kernel
theorem dX14_unlike_85 : decode cX14_unlike 85 = .ok (.iastore, 1) := by decide +kernel
theorem dX14_unlike_86 : decode cX14_unlike 86 = .ok (.iinc 8 1, 3) := by decide +kernel
theorem dX14_unlike_89 : decode cX14_unlike 89 = .ok (.goto (-27), 3) := by decide +kernel
theorem dX14_unlike_92 : decode cX14_unlike 92 = .ok (.iconst 0, 1) := by decide +kernel
theorem dX14_unlike_93 : decode cX14_unlike 93 = .ok (.istore 8, 2) := by decide +kernel
theorem dX14_unlike_95 : decode cX14_unlike 95 = .ok (.iconst 0, 1) := by decide +kernel
theorem dX14_unlike_96 : decode cX14_unlike 96 = .ok (.istore 9, 2) := by decide +kernel
theorem dX14_unlike_98 : decode cX14_unlike 98 = .ok (.iload 9, 2) := by decide +kernel
theorem dX14_unlike_100 : decode cX14_unlike 100 = .ok (.iconst 4, 1) := by decide +kernel
theorem dX14_unlike_101 : decode cX14_unlike 101 = .ok (.if_icmp .ge 136, 3) := by decide +kernel
theorem dX14_unlike_104 : decode cX14_unlike 104 = .ok (.aload_n 0, 1) := by decide +kernel
theorem dX14_unlike_105 : decode cX14_unlike 105 = .ok (.iload_n 1, 1) := by decide +kernel
theorem dX14_unlike_106 : decode cX14_unlike 106 = .ok (.iload_n 2, 1) := by decide +kernel
theorem dX14_unlike_107 : decode cX14_unlike 107 = .ok (.iload_n 3, 1) := by decide +kernel
theorem dX14_unlike_108 : decode cX14_unlike 108 = .ok (.iload 4, 2) := by decide +kernel
theorem dX14_unlike_110 : decode cX14_unlike 110 = .ok (.sipush 2000, 3) := by decide +kernel
theorem dX14_unlike_113 : decode cX14_unlike 113 = .ok (.iload 9, 2) := by decide +kernel
theorem dX14_unlike_115 : decode cX14_unlike 115 = .ok (.invokevirtual 411, 3) := by decide +kernel
theorem dX14_unlike_118 : decode cX14_unlike 118 = .ok (.aload_n 0, 1) := by decide +kernel
theorem dX14_unlike_119 : decode cX14_unlike 119 = .ok (.getfield 44, 3) := by decide +kernel
theorem dX14_unlike_122 : decode cX14_unlike 122 = .ok (.getfield 350, 3) := by decide +kernel
theorem dX14_unlike_125 : decode cX14_unlike 125 = .ok (.iload 5, 2) := by decide +kernel
theorem dX14_unlike_127 : decode cX14_unlike 127 = .ok (.if_icmp .ne 31, 3) := by decide +kernel
theorem dX14_unlike_130 : decode cX14_unlike 130 = .ok (.aload_n 0, 1) := by decide +kernel
theorem dX14_unlike_131 : decode cX14_unlike 131 = .ok (.getfield 44, 3) := by decide +kernel
theorem dX14_unlike_134 : decode cX14_unlike 134 = .ok (.getfield 352, 3) := by decide +kernel
theorem dX14_unlike_137 : decode cX14_unlike 137 = .ok (.iload 6, 2) := by decide +kernel
theorem dX14_unlike_139 : decode cX14_unlike 139 = .ok (.if_icmp .ne 19, 3) := by decide +kernel
theorem dX14_unlike_142 : decode cX14_unlike 142 = .ok (.aload_n 0, 1) := by decide +kernel
theorem dX14_unlike_143 : decode cX14_unlike 143 = .ok (.getfield 44, 3) := by decide +kernel
theorem dX14_unlike_146 : decode cX14_unlike 146 = .ok (.getfield 357, 3) := by decide +kernel
theorem dX14_unlike_149 : decode cX14_unlike 149 = .ok (.iload 7, 2) := by decide +kernel
theorem dX14_unlike_151 : decode cX14_unlike 151 = .ok (.if_icmp .ne 7, 3) := by decide +kernel
theorem dX14_unlike_154 : decode cX14_unlike 154 = .ok (.iconst 1, 1) := by decide +kernel
theorem dX14_unlike_155 : decode cX14_unlike 155 = .ok (.goto 4, 3) := by decide +kernel
theorem dX14_unlike_158 : decode cX14_unlike 158 = .ok (.iconst 0, 1) := by decide +kernel
theorem dX14_unlike_159 : decode cX14_unlike 159 = .ok (.istore 10, 2) := by decide +kernel
theorem dX14_unlike_161 : decode cX14_unlike 161 = .ok (.iconst 0, 1) := by decide +kernel
theorem dX14_unlike_162 : decode cX14_unlike 162 = .ok (.istore 11, 2) := by decide +kernel
theorem dX14_unlike_164 : decode cX14_unlike 164 = .ok (.iload 11, 2) := by decide +kernel
theorem dX14_unlike_166 : decode cX14_unlike 166 = .ok (.iload 7, 2) := by decide +kernel
theorem dX14_unlike_168 : decode cX14_unlike 168 = .ok (.if_icmp .ge 48, 3) := by decide +kernel
theorem dX14_unlike_171 : decode cX14_unlike 171 = .ok (.iload 11, 2) := by decide +kernel
theorem dX14_unlike_173 : decode cX14_unlike 173 = .ok (.bipush 60, 2) := by decide +kernel
theorem dX14_unlike_175 : decode cX14_unlike 175 = .ok (.if_icmp .ge 41, 3) := by decide +kernel
theorem dX14_unlike_178 : decode cX14_unlike 178 = .ok (.iload 10, 2) := by decide +kernel
theorem dX14_unlike_180 : decode cX14_unlike 180 = .ok (.ifCond .eq 36, 3) := by decide +kernel
theorem dX14_unlike_183 : decode cX14_unlike 183 = .ok (.aload_n 0, 1) := by decide +kernel
theorem dX14_unlike_184 : decode cX14_unlike 184 = .ok (.getfield 44, 3) := by decide +kernel
theorem dX14_unlike_187 : decode cX14_unlike 187 = .ok (.getfield 397, 3) := by decide +kernel
theorem dX14_unlike_190 : decode cX14_unlike 190 = .ok (.iload 11, 2) := by decide +kernel
theorem dX14_unlike_192 : decode cX14_unlike 192 = .ok (.iaload, 1) := by decide +kernel
theorem dX14_unlike_193 : decode cX14_unlike 193 = .ok (.aload_n 0, 1) := by decide +kernel
theorem dX14_unlike_194 : decode cX14_unlike 194 = .ok (.getfield 51, 3) := by decide +kernel
theorem dX14_unlike_197 : decode cX14_unlike 197 = .ok (.iload 11, 2) := by decide +kernel
theorem dX14_unlike_199 : decode cX14_unlike 199 = .ok (.iaload, 1) := by decide +kernel
theorem dX14_unlike_200 : decode cX14_unlike 200 = .ok (.if_icmp .ne 7, 3) := by decide +kernel
theorem dX14_unlike_203 : decode cX14_unlike 203 = .ok (.iconst 1, 1) := by decide +kernel
theorem dX14_unlike_204 : decode cX14_unlike 204 = .ok (.goto 4, 3) := by decide +kernel
theorem dX14_unlike_207 : decode cX14_unlike 207 = .ok (.iconst 0, 1) := by decide +kernel
theorem dX14_unlike_208 : decode cX14_unlike 208 = .ok (.istore 10, 2) := by decide +kernel
theorem dX14_unlike_210 : decode cX14_unlike 210 = .ok (.iinc 11 1, 3) := by decide +kernel
theorem dX14_unlike_213 : decode cX14_unlike 213 = .ok (.goto (-49), 3) := by decide +kernel
theorem dX14_unlike_216 : decode cX14_unlike 216 = .ok (.iload 8, 2) := by decide +kernel
theorem dX14_unlike_218 : decode cX14_unlike 218 = .ok (.iload 10, 2) := by decide +kernel
theorem dX14_unlike_220 : decode cX14_unlike 220 = .ok (.ifCond .eq 7, 3) := by decide +kernel
theorem dX14_unlike_223 : decode cX14_unlike 223 = .ok (.iconst 0, 1) := by decide +kernel
theorem dX14_unlike_224 : decode cX14_unlike 224 = .ok (.goto 4, 3) := by decide +kernel
theorem dX14_unlike_227 : decode cX14_unlike 227 = .ok (.iconst 1, 1) := by decide +kernel
theorem dX14_unlike_228 : decode cX14_unlike 228 = .ok (.iadd, 1) := by decide +kernel
theorem dX14_unlike_229 : decode cX14_unlike 229 = .ok (.istore 8, 2) := by decide +kernel
theorem dX14_unlike_231 : decode cX14_unlike 231 = .ok (.iinc 9 1, 3) := by decide +kernel
theorem dX14_unlike_234 : decode cX14_unlike 234 = .ok (.goto (-136), 3) := by decide +kernel
theorem dX14_unlike_237 : decode cX14_unlike 237 = .ok (.aload_n 0, 1) := by decide +kernel
theorem dX14_unlike_238 : decode cX14_unlike 238 = .ok (.iload 8, 2) := by decide +kernel
theorem dX14_unlike_240 : decode cX14_unlike 240 = .ok (.invokevirtual 333, 3) := by decide +kernel
theorem dX14_unlike_243 : decode cX14_unlike 243 = .ok (.ireturn, 1) := by decide +kernel
theorem dX14_order_0 : decode cX14_order 0 = .ok (.aload_n 0, 1) := by decide +kernel
theorem dX14_order_1 : decode cX14_order 1 = .ok (.iconst 0, 1) := by decide +kernel
theorem dX14_order_2 : decode cX14_order 2 = .ok (.putfield 76, 3) := by decide +kernel
theorem dX14_order_5 : decode cX14_order 5 = .ok (.aload_n 0, 1) := by decide +kernel
theorem dX14_order_6 : decode cX14_order 6 = .ok (.getfield 318, 3) := by decide +kernel
theorem dX14_order_9 : decode cX14_order 9 = .ok (.ifCond .ne 6, 3) := by decide +kernel
theorem dX14_order_12 : decode cX14_order 12 = .ok (.bipush (-2), 2) := by decide +kernel
theorem dX14_order_14 : decode cX14_order 14 = .ok (.ireturn, 1) := by decide +kernel
theorem dX14_order_15 : decode cX14_order 15 = .ok (.aload_n 0, 1) := by decide +kernel
theorem dX14_order_16 : decode cX14_order 16 = .ok (.invokevirtual 425, 3) := by decide +kernel
theorem dX14_order_19 : decode cX14_order 19 = .ok (.aload_n 0, 1) := by decide +kernel
theorem dX14_order_20 : decode cX14_order 20 = .ok (.getfield 54, 3) := by decide +kernel
theorem dX14_order_23 : decode cX14_order 23 = .ok (.iconst 0, 1) := by decide +kernel
theorem dX14_order_24 : decode cX14_order 24 = .ok (.iaload, 1) := by decide +kernel
theorem dX14_order_25 : decode cX14_order 25 = .ok (.ireturn, 1) := by decide +kernel
theorem dX14_chapter_0 : decode cX14_chapter 0 = .ok (.aload_n 0, 1) := by decide +kernel
theorem dX14_chapter_1 : decode cX14_chapter 1 = .ok (.iconst 0, 1) := by decide +kernel
theorem dX14_chapter_2 : decode cX14_chapter 2 = .ok (.putfield 76, 3) := by decide +kernel
theorem dX14_chapter_5 : decode cX14_chapter 5 = .ok (.aload_n 0, 1) := by decide +kernel
theorem dX14_chapter_6 : decode cX14_chapter 6 = .ok (.getfield 318, 3) := by decide +kernel
theorem dX14_chapter_9 : decode cX14_chapter 9 = .ok (.ifCond .eq 18, 3) := by decide +kernel
theorem dX14_chapter_12 : decode cX14_chapter 12 = .ok (.iload_n 1, 1) := by decide +kernel
theorem dX14_chapter_13 : decode cX14_chapter 13 = .ok (.ifCond .lt 14, 3) := by decide +kernel
theorem dX14_chapter_16 : decode cX14_chapter 16 = .ok (.iload_n 1, 1) := by decide +kernel
theorem dX14_chapter_17 : decode cX14_chapter 17 = .ok (.aload_n 0, 1) := by decide +kernel
theorem dX14_chapter_18 : decode cX14_chapter 18 = .ok (.getfield 16, 3) := by decide +kernel
theorem dX14_chapter_21 : decode cX14_chapter 21 = .ok (.getfield 168, 3) := by decide +kernel
theorem dX14_chapter_24 : decode cX14_chapter 24 = .ok (.if_icmp .lt 5, 3) := by decide +kernel
theorem dX14_chapter_27 : decode cX14_chapter 27 = .ok (.iconst (-1), 1) := by decide +kernel
theorem dX14_chapter_28 : decode cX14_chapter 28 = .ok (.ireturn, 1) := by decide +kernel
theorem dX14_chapter_29 : decode cX14_chapter 29 = .ok (.aload_n 0, 1) := by decide +kernel
theorem dX14_chapter_30 : decode cX14_chapter 30 = .ok (.invokevirtual 425, 3) := by decide +kernel
theorem dX14_chapter_33 : decode cX14_chapter 33 = .ok (.iconst 0, 1) := by decide +kernel
theorem dX14_chapter_34 : decode cX14_chapter 34 = .ok (.istore_n 2, 1) := by decide +kernel
theorem dX14_chapter_35 : decode cX14_chapter 35 = .ok (.iconst (-1), 1) := by decide +kernel
theorem dX14_chapter_36 : decode cX14_chapter 36 = .ok (.istore_n 3, 1) := by decide +kernel
theorem dX14_chapter_37 : decode cX14_chapter 37 = .ok (.iconst 0, 1) := by decide +kernel
theorem dX14_chapter_38 : decode cX14_chapter 38 = .ok (.istore 4, 2) := by decide +kernel
theorem dX14_chapter_40 : decode cX14_chapter 40 = .ok (.iload 4, 2) := by decide +kernel
theorem dX14_chapter_42 : decode cX14_chapter 42 = .ok (.iload_n 1, 1) := by decide +kernel
theorem dX14_chapter_43 : decode cX14_chapter 43 = .ok (.if_icmp .gt 58, 3) := by decide +kernel
theorem dX14_chapter_46 : decode cX14_chapter 46 = .ok (.iconst 0, 1) := by decide +kernel
theorem dX14_chapter_47 : decode cX14_chapter 47 = .ok (.istore_n 3, 1) := by decide +kernel
theorem dX14_chapter_48 : decode cX14_chapter 48 = .ok (.iload_n 2, 1) := by decide +kernel
theorem dX14_chapter_49 : decode cX14_chapter 49 = .ok (.iload_n 3, 1) := by decide +kernel
theorem dX14_chapter_50 : decode cX14_chapter 50 = .ok (.ishr, 1) := by decide +kernel
theorem dX14_chapter_51 : decode cX14_chapter 51 = .ok (.iconst 1, 1) := by decide +kernel
theorem dX14_chapter_52 : decode cX14_chapter 52 = .ok (.iand, 1) := by decide +kernel
theorem dX14_chapter_53 : decode cX14_chapter 53 = .ok (.iconst 1, 1) := by decide +kernel
theorem dX14_chapter_54 : decode cX14_chapter 54 = .ok (.if_icmp .eq 29, 3) := by decide +kernel
theorem dX14_chapter_57 : decode cX14_chapter 57 = .ok (.aload_n 0, 1) := by decide +kernel
theorem dX14_chapter_58 : decode cX14_chapter 58 = .ok (.iload_n 3, 1) := by decide +kernel
theorem dX14_chapter_59 : decode cX14_chapter 59 = .ok (.iload_n 2, 1) := by decide +kernel
theorem dX14_chapter_60 : decode cX14_chapter 60 = .ok (.invokevirtual 422, 3) := by decide +kernel
theorem dX14_chapter_63 : decode cX14_chapter 63 = .ok (.aload_n 0, 1) := by decide +kernel
theorem dX14_chapter_64 : decode cX14_chapter 64 = .ok (.getfield 54, 3) := by decide +kernel
theorem dX14_chapter_67 : decode cX14_chapter 67 = .ok (.iload_n 2, 1) := by decide +kernel
theorem dX14_chapter_68 : decode cX14_chapter 68 = .ok (.iconst 1, 1) := by decide +kernel
theorem dX14_chapter_69 : decode cX14_chapter 69 = .ok (.iload_n 3, 1) := by decide +kernel
theorem dX14_chapter_70 : decode cX14_chapter 70 = .ok (.ishl, 1) := by decide +kernel
theorem dX14_chapter_71 : decode cX14_chapter 71 = .ok (.ior, 1) := by decide +kernel
theorem dX14_chapter_72 : decode cX14_chapter 72 = .ok (.iaload, 1) := by decide +kernel
theorem dX14_chapter_73 : decode cX14_chapter 73 = .ok (.iadd, 1) := by decide +kernel
theorem dX14_chapter_74 : decode cX14_chapter 74 = .ok (.aload_n 0, 1) := by decide +kernel
theorem dX14_chapter_75 : decode cX14_chapter 75 = .ok (.getfield 54, 3) := by decide +kernel
theorem dX14_chapter_78 : decode cX14_chapter 78 = .ok (.iload_n 2, 1) := by decide +kernel
theorem dX14_chapter_79 : decode cX14_chapter 79 = .ok (.iaload, 1) := by decide +kernel
theorem dX14_chapter_80 : decode cX14_chapter 80 = .ok (.if_icmp .eq 9, 3) := by decide +kernel
theorem dX14_chapter_83 : decode cX14_chapter 83 = .ok (.iinc 3 1, 3) := by decide +kernel
theorem dX14_chapter_86 : decode cX14_chapter 86 = .ok (.goto (-38), 3) := by decide +kernel
theorem dX14_chapter_89 : decode cX14_chapter 89 = .ok (.iload_n 2, 1) := by decide +kernel
theorem dX14_chapter_90 : decode cX14_chapter 90 = .ok (.iconst 1, 1) := by decide +kernel
theorem dX14_chapter_91 : decode cX14_chapter 91 = .ok (.iload_n 3, 1) := by decide +kernel
theorem dX14_chapter_92 : decode cX14_chapter 92 = .ok (.ishl, 1) := by decide +kernel
theorem dX14_chapter_93 : decode cX14_chapter 93 = .ok (.ior, 1) := by decide +kernel
theorem dX14_chapter_94 : decode cX14_chapter 94 = .ok (.istore_n 2, 1) := by decide +kernel
theorem dX14_chapter_95 : decode cX14_chapter 95 = .ok (.iinc 4 1, 3) := by decide +kernel
theorem dX14_chapter_98 : decode cX14_chapter 98 = .ok (.goto (-58), 3) := by decide +kernel
theorem dX14_chapter_101 : decode cX14_chapter 101 = .ok (.iload_n 3, 1) := by decide +kernel
theorem dX14_chapter_102 : decode cX14_chapter 102 = .ok (.ireturn, 1) := by decide +kernel
theorem dX14_tell_0 : decode cX14_tell 0 = .ok (.aload_n 0, 1) := by decide +kernel
theorem dX14_tell_1 : decode cX14_tell 1 = .ok (.iconst 0, 1) := by decide +kernel
theorem dX14_tell_2 : decode cX14_tell 2 = .ok (.putfield 76, 3) := by decide +kernel
theorem dX14_tell_5 : decode cX14_tell 5 = .ok (.aload_n 0, 1) := by decide +kernel
theorem dX14_tell_6 : decode cX14_tell 6 = .ok (.iload_n 1, 1) := by decide +kernel
theorem dX14_tell_7 : decode cX14_tell 7 = .ok (.invokevirtual 336, 3) := by decide +kernel
theorem dX14_tell_10 : decode cX14_tell 10 = .ok (.ifCond .ne 9, 3) := by decide +kernel
theorem dX14_tell_13 : decode cX14_tell 13 = .ok (.aload_n 0, 1) := by decide +kernel
theorem dX14_tell_14 : decode cX14_tell 14 = .ok (.iconst 1, 1) := by decide +kernel
theorem dX14_tell_15 : decode cX14_tell 15 = .ok (.invokevirtual 307, 3) := by decide +kernel
theorem dX14_tell_18 : decode cX14_tell 18 = .ok (.ireturn, 1) := by decide +kernel
theorem dX14_tell_19 : decode cX14_tell 19 = .ok (.aload_n 0, 1) := by decide +kernel
theorem dX14_tell_20 : decode cX14_tell 20 = .ok (.getfield 324, 3) := by decide +kernel
theorem dX14_tell_23 : decode cX14_tell 23 = .ok (.bipush 12, 2) := by decide +kernel
theorem dX14_tell_25 : decode cX14_tell 25 = .ok (.if_icmp .ne 9, 3) := by decide +kernel
theorem dX14_tell_28 : decode cX14_tell 28 = .ok (.aload_n 0, 1) := by decide +kernel
theorem dX14_tell_29 : decode cX14_tell 29 = .ok (.iconst 3, 1) := by decide +kernel
theorem dX14_tell_30 : decode cX14_tell 30 = .ok (.invokevirtual 307, 3) := by decide +kernel
theorem dX14_tell_33 : decode cX14_tell 33 = .ok (.ireturn, 1) := by decide +kernel
theorem dX14_tell_34 : decode cX14_tell 34 = .ok (.aload_n 0, 1) := by decide +kernel
theorem dX14_tell_35 : decode cX14_tell 35 = .ok (.getfield 57, 3) := by decide +kernel
theorem dX14_tell_38 : decode cX14_tell 38 = .ok (.aload_n 0, 1) := by decide +kernel
theorem dX14_tell_39 : decode cX14_tell 39 = .ok (.getfield 324, 3) := by decide +kernel
theorem dX14_tell_42 : decode cX14_tell 42 = .ok (.iload_n 1, 1) := by decide +kernel
theorem dX14_tell_43 : decode cX14_tell 43 = .ok (.iastore, 1) := by decide +kernel
theorem dX14_tell_44 : decode cX14_tell 44 = .ok (.aload_n 0, 1) := by decide +kernel
theorem dX14_tell_45 : decode cX14_tell 45 = .ok (.getfield 60, 3) := by decide +kernel
theorem dX14_tell_48 : decode cX14_tell 48 = .ok (.aload_n 0, 1) := by decide +kernel
theorem dX14_tell_49 : decode cX14_tell 49 = .ok (.getfield 324, 3) := by decide +kernel
theorem dX14_tell_52 : decode cX14_tell 52 = .ok (.iload_n 2, 1) := by decide +kernel
theorem dX14_tell_53 : decode cX14_tell 53 = .ok (.iastore, 1) := by decide +kernel
theorem dX14_tell_54 : decode cX14_tell 54 = .ok (.aload_n 0, 1) := by decide +kernel
theorem dX14_tell_55 : decode cX14_tell 55 = .ok (.getfield 63, 3) := by decide +kernel
theorem dX14_tell_58 : decode cX14_tell 58 = .ok (.aload_n 0, 1) := by decide +kernel
theorem dX14_tell_59 : decode cX14_tell 59 = .ok (.getfield 324, 3) := by decide +kernel
theorem dX14_tell_62 : decode cX14_tell 62 = .ok (.iload_n 3, 1) := by decide +kernel
theorem dX14_tell_63 : decode cX14_tell 63 = .ok (.iastore, 1) := by decide +kernel
theorem dX14_tell_64 : decode cX14_tell 64 = .ok (.aload_n 0, 1) := by decide +kernel
theorem dX14_tell_65 : decode cX14_tell 65 = .ok (.getfield 66, 3) := by decide +kernel
theorem dX14_tell_68 : decode cX14_tell 68 = .ok (.aload_n 0, 1) := by decide +kernel
theorem dX14_tell_69 : decode cX14_tell 69 = .ok (.getfield 324, 3) := by decide +kernel
theorem dX14_tell_72 : decode cX14_tell 72 = .ok (.iload 4, 2) := by decide +kernel
theorem dX14_tell_74 : decode cX14_tell 74 = .ok (.iastore, 1) := by decide +kernel
theorem dX14_tell_75 : decode cX14_tell 75 = .ok (.aload_n 0, 1) := by decide +kernel
theorem dX14_tell_76 : decode cX14_tell 76 = .ok (.dup, 1) := by decide +kernel
theorem dX14_tell_77 : decode cX14_tell 77 = .ok (.getfield 324, 3) := by decide +kernel
theorem dX14_tell_80 : decode cX14_tell 80 = .ok (.iconst 1, 1) := by decide +kernel
theorem dX14_tell_81 : decode cX14_tell 81 = .ok (.iadd, 1) := by decide +kernel
theorem dX14_tell_82 : decode cX14_tell 82 = .ok (.putfield 324, 3) := by decide +kernel
theorem dX14_tell_85 : decode cX14_tell 85 = .ok (.aload_n 0, 1) := by decide +kernel
theorem dX14_tell_86 : decode cX14_tell 86 = .ok (.aload_n 0, 1) := by decide +kernel
theorem dX14_tell_87 : decode cX14_tell 87 = .ok (.getfield 324, 3) := by decide +kernel
theorem dX14_tell_90 : decode cX14_tell 90 = .ok (.iconst 1, 1) := by decide +kernel
theorem dX14_tell_91 : decode cX14_tell 91 = .ok (.isub, 1) := by decide +kernel
theorem dX14_tell_92 : decode cX14_tell 92 = .ok (.invokevirtual 333, 3) := by decide +kernel
theorem dX14_tell_95 : decode cX14_tell 95 = .ok (.ireturn, 1) := by decide +kernel
theorem dX14_shownBy_0 : decode cX14_shownBy 0 = .ok (.lconst 0, 1) := by decide +kernel
theorem dX14_shownBy_1 : decode cX14_shownBy 1 = .ok (.lstore_n 1, 1) := by decide +kernel
theorem dX14_shownBy_2 : decode cX14_shownBy 2 = .ok (.iconst 0, 1) := by decide +kernel
theorem dX14_shownBy_3 : decode cX14_shownBy 3 = .ok (.istore_n 3, 1) := by decide +kernel
theorem dX14_shownBy_4 : decode cX14_shownBy 4 = .ok (.iload_n 3, 1) := by decide +kernel
theorem dX14_shownBy_5 : decode cX14_shownBy 5 = .ok (.aload_n 0, 1) := by decide +kernel
theorem dX14_shownBy_6 : decode cX14_shownBy 6 = .ok (.getfield 324, 3) := by decide +kernel
theorem dX14_shownBy_9 : decode cX14_shownBy 9 = .ok (.if_icmp .ge 63, 3) := by decide +kernel
theorem dX14_shownBy_12 : decode cX14_shownBy 12 = .ok (.aload_n 0, 1) := by decide +kernel
theorem dX14_shownBy_13 : decode cX14_shownBy 13 = .ok (.aload_n 0, 1) := by decide +kernel
theorem dX14_shownBy_14 : decode cX14_shownBy 14 = .ok (.getfield 57, 3) := by decide +kernel
theorem dX14_shownBy_17 : decode cX14_shownBy 17 = .ok (.iload_n 3, 1) := by decide +kernel
theorem dX14_shownBy_18 : decode cX14_shownBy 18 = .ok (.iaload, 1) := by decide +kernel
theorem dX14_shownBy_19 : decode cX14_shownBy 19 = .ok (.aload_n 0, 1) := by decide +kernel
theorem dX14_shownBy_20 : decode cX14_shownBy 20 = .ok (.getfield 60, 3) := by decide +kernel
theorem dX14_shownBy_23 : decode cX14_shownBy 23 = .ok (.iload_n 3, 1) := by decide +kernel
theorem dX14_shownBy_24 : decode cX14_shownBy 24 = .ok (.iaload, 1) := by decide +kernel
theorem dX14_shownBy_25 : decode cX14_shownBy 25 = .ok (.aload_n 0, 1) := by decide +kernel
theorem dX14_shownBy_26 : decode cX14_shownBy 26 = .ok (.getfield 63, 3) := by decide +kernel
theorem dX14_shownBy_29 : decode cX14_shownBy 29 = .ok (.iload_n 3, 1) := by decide +kernel
theorem dX14_shownBy_30 : decode cX14_shownBy 30 = .ok (.iaload, 1) := by decide +kernel
theorem dX14_shownBy_31 : decode cX14_shownBy 31 = .ok (.aload_n 0, 1) := by decide +kernel
theorem dX14_shownBy_32 : decode cX14_shownBy 32 = .ok (.getfield 66, 3) := by decide +kernel
theorem dX14_shownBy_35 : decode cX14_shownBy 35 = .ok (.iload_n 3, 1) := by decide +kernel
theorem dX14_shownBy_36 : decode cX14_shownBy 36 = .ok (.iaload, 1) := by decide +kernel
theorem dX14_shownBy_37 : decode cX14_shownBy 37 = .ok (.sipush 2000, 3) := by decide +kernel
theorem dX14_shownBy_40 : decode cX14_shownBy 40 = .ok (.iconst (-1), 1) := by decide +kernel
theorem dX14_shownBy_41 : decode cX14_shownBy 41 = .ok (.invokevirtual 411, 3) := by decide +kernel
theorem dX14_shownBy_44 : decode cX14_shownBy 44 = .ok (.aload_n 0, 1) := by decide +kernel
theorem dX14_shownBy_45 : decode cX14_shownBy 45 = .ok (.getfield 72, 3) := by decide +kernel
theorem dX14_shownBy_48 : decode cX14_shownBy 48 = .ok (.iload_n 3, 1) := by decide +kernel
theorem dX14_shownBy_49 : decode cX14_shownBy 49 = .ok (.aload_n 0, 1) := by decide +kernel
theorem dX14_shownBy_50 : decode cX14_shownBy 50 = .ok (.getfield 44, 3) := by decide +kernel
theorem dX14_shownBy_53 : decode cX14_shownBy 53 = .ok (.getfield 366, 3) := by decide +kernel
theorem dX14_shownBy_56 : decode cX14_shownBy 56 = .ok (.lastore, 1) := by decide +kernel
theorem dX14_shownBy_57 : decode cX14_shownBy 57 = .ok (.lload_n 1, 1) := by decide +kernel
theorem dX14_shownBy_58 : decode cX14_shownBy 58 = .ok (.aload_n 0, 1) := by decide +kernel
theorem dX14_shownBy_59 : decode cX14_shownBy 59 = .ok (.getfield 72, 3) := by decide +kernel
theorem dX14_shownBy_62 : decode cX14_shownBy 62 = .ok (.iload_n 3, 1) := by decide +kernel
theorem dX14_shownBy_63 : decode cX14_shownBy 63 = .ok (.laload, 1) := by decide +kernel
theorem dX14_shownBy_64 : decode cX14_shownBy 64 = .ok (.lor, 1) := by decide +kernel
theorem dX14_shownBy_65 : decode cX14_shownBy 65 = .ok (.lstore_n 1, 1) := by decide +kernel
theorem dX14_shownBy_66 : decode cX14_shownBy 66 = .ok (.iinc 3 1, 3) := by decide +kernel
theorem dX14_shownBy_69 : decode cX14_shownBy 69 = .ok (.goto (-65), 3) := by decide +kernel
theorem dX14_shownBy_72 : decode cX14_shownBy 72 = .ok (.lload_n 1, 1) := by decide +kernel
theorem dX14_shownBy_73 : decode cX14_shownBy 73 = .ok (.lreturn, 1) := by decide +kernel
theorem dX14_shown_0 : decode cX14_shown 0 = .ok (.aload_n 0, 1) := by decide +kernel
theorem dX14_shown_1 : decode cX14_shown 1 = .ok (.iconst 0, 1) := by decide +kernel
theorem dX14_shown_2 : decode cX14_shown 2 = .ok (.putfield 76, 3) := by decide +kernel
theorem dX14_shown_5 : decode cX14_shown 5 = .ok (.aload_n 0, 1) := by decide +kernel
theorem dX14_shown_6 : decode cX14_shown 6 = .ok (.invokevirtual 428, 3) := by decide +kernel
theorem dX14_shown_9 : decode cX14_shown 9 = .ok (.invokestatic 414, 3) := by decide +kernel
theorem dX14_shown_12 : decode cX14_shown 12 = .ok (.ireturn, 1) := by decide +kernel
theorem dX14_fewest_0 : decode cX14_fewest 0 = .ok (.aload_n 0, 1) := by decide +kernel
theorem dX14_fewest_1 : decode cX14_fewest 1 = .ok (.iconst 0, 1) := by decide +kernel
theorem dX14_fewest_2 : decode cX14_fewest 2 = .ok (.putfield 76, 3) := by decide +kernel
theorem dX14_fewest_5 : decode cX14_fewest 5 = .ok (.aload_n 0, 1) := by decide +kernel
theorem dX14_fewest_6 : decode cX14_fewest 6 = .ok (.invokevirtual 428, 3) := by decide +kernel
theorem dX14_fewest_9 : decode cX14_fewest 9 = .ok (.lstore_n 1, 1) := by decide +kernel
theorem dX14_fewest_10 : decode cX14_fewest 10 = .ok (.iconst (-1), 1) := by decide +kernel
theorem dX14_fewest_11 : decode cX14_fewest 11 = .ok (.istore_n 3, 1) := by decide +kernel
theorem dX14_fewest_12 : decode cX14_fewest 12 = .ok (.iconst 0, 1) := by decide +kernel
theorem dX14_fewest_13 : decode cX14_fewest 13 = .ok (.istore 4, 2) := by decide +kernel
theorem dX14_fewest_15 : decode cX14_fewest 15 = .ok (.iload 4, 2) := by decide +kernel
theorem dX14_fewest_17 : decode cX14_fewest 17 = .ok (.iconst 1, 1) := by decide +kernel
theorem dX14_fewest_18 : decode cX14_fewest 18 = .ok (.aload_n 0, 1) := by decide +kernel
theorem dX14_fewest_19 : decode cX14_fewest 19 = .ok (.getfield 324, 3) := by decide +kernel
theorem dX14_fewest_22 : decode cX14_fewest 22 = .ok (.ishl, 1) := by decide +kernel
theorem dX14_fewest_23 : decode cX14_fewest 23 = .ok (.if_icmp .ge 125, 3) := by decide +kernel
theorem dX14_fewest_26 : decode cX14_fewest 26 = .ok (.iload_n 3, 1) := by decide +kernel
theorem dX14_fewest_27 : decode cX14_fewest 27 = .ok (.iconst (-1), 1) := by decide +kernel
theorem dX14_fewest_28 : decode cX14_fewest 28 = .ok (.if_icmp .eq 18, 3) := by decide +kernel
theorem dX14_fewest_31 : decode cX14_fewest 31 = .ok (.iload 4, 2) := by decide +kernel
theorem dX14_fewest_33 : decode cX14_fewest 33 = .ok (.invokestatic 419, 3) := by decide +kernel
theorem dX14_fewest_36 : decode cX14_fewest 36 = .ok (.iload_n 3, 1) := by decide +kernel
theorem dX14_fewest_37 : decode cX14_fewest 37 = .ok (.invokestatic 419, 3) := by decide +kernel
theorem dX14_fewest_40 : decode cX14_fewest 40 = .ok (.if_icmp .le 6, 3) := by decide +kernel
theorem dX14_fewest_43 : decode cX14_fewest 43 = .ok (.goto 99, 3) := by decide +kernel
theorem dX14_fewest_46 : decode cX14_fewest 46 = .ok (.lconst 0, 1) := by decide +kernel
theorem dX14_fewest_47 : decode cX14_fewest 47 = .ok (.lstore 5, 2) := by decide +kernel
theorem dX14_fewest_49 : decode cX14_fewest 49 = .ok (.iconst 0, 1) := by decide +kernel
theorem dX14_fewest_50 : decode cX14_fewest 50 = .ok (.istore 7, 2) := by decide +kernel
theorem dX14_fewest_52 : decode cX14_fewest 52 = .ok (.iload 7, 2) := by decide +kernel
theorem dX14_fewest_54 : decode cX14_fewest 54 = .ok (.aload_n 0, 1) := by decide +kernel
theorem dX14_fewest_55 : decode cX14_fewest 55 = .ok (.getfield 324, 3) := by decide +kernel
theorem dX14_fewest_58 : decode cX14_fewest 58 = .ok (.if_icmp .ge 36, 3) := by decide +kernel
theorem dX14_fewest_61 : decode cX14_fewest 61 = .ok (.lload 5, 2) := by decide +kernel
theorem dX14_fewest_63 : decode cX14_fewest 63 = .ok (.iload 4, 2) := by decide +kernel
theorem dX14_fewest_65 : decode cX14_fewest 65 = .ok (.iload 7, 2) := by decide +kernel
theorem dX14_fewest_67 : decode cX14_fewest 67 = .ok (.ishr, 1) := by decide +kernel
theorem dX14_fewest_68 : decode cX14_fewest 68 = .ok (.iconst 1, 1) := by decide +kernel
theorem dX14_fewest_69 : decode cX14_fewest 69 = .ok (.iand, 1) := by decide +kernel
theorem dX14_fewest_70 : decode cX14_fewest 70 = .ok (.iconst 1, 1) := by decide +kernel
theorem dX14_fewest_71 : decode cX14_fewest 71 = .ok (.if_icmp .ne 13, 3) := by decide +kernel
theorem dX14_fewest_74 : decode cX14_fewest 74 = .ok (.aload_n 0, 1) := by decide +kernel
theorem dX14_fewest_75 : decode cX14_fewest 75 = .ok (.getfield 72, 3) := by decide +kernel
theorem dX14_fewest_78 : decode cX14_fewest 78 = .ok (.iload 7, 2) := by decide +kernel
theorem dX14_fewest_80 : decode cX14_fewest 80 = .ok (.laload, 1) := by decide +kernel
theorem dX14_fewest_81 : decode cX14_fewest 81 = .ok (.goto 4, 3) := by decide +kernel
theorem dX14_fewest_84 : decode cX14_fewest 84 = .ok (.lconst 0, 1) := by decide +kernel
theorem dX14_fewest_85 : decode cX14_fewest 85 = .ok (.lor, 1) := by decide +kernel
theorem dX14_fewest_86 : decode cX14_fewest 86 = .ok (.lstore 5, 2) := by decide +kernel
theorem dX14_fewest_88 : decode cX14_fewest 88 = .ok (.iinc 7 1, 3) := by decide +kernel
theorem dX14_fewest_91 : decode cX14_fewest 91 = .ok (.goto (-39), 3) := by decide +kernel
theorem dX14_fewest_94 : decode cX14_fewest 94 = .ok (.iload 4, 2) := by decide +kernel
theorem dX14_fewest_96 : decode cX14_fewest 96 = .ok (.iload_n 3, 1) := by decide +kernel
theorem dX14_fewest_97 : decode cX14_fewest 97 = .ok (.ixor, 1) := by decide +kernel
theorem dX14_fewest_98 : decode cX14_fewest 98 = .ok (.istore 7, 2) := by decide +kernel
theorem dX14_fewest_100 : decode cX14_fewest 100 = .ok (.lload 5, 2) := by decide +kernel
theorem dX14_fewest_102 : decode cX14_fewest 102 = .ok (.lload_n 1, 1) := by decide +kernel
theorem dX14_fewest_103 : decode cX14_fewest 103 = .ok (.lcmp, 1) := by decide +kernel
theorem dX14_fewest_104 : decode cX14_fewest 104 = .ok (.ifCond .ne 38, 3) := by decide +kernel
theorem dX14_fewest_107 : decode cX14_fewest 107 = .ok (.iload_n 3, 1) := by decide +kernel
theorem dX14_fewest_108 : decode cX14_fewest 108 = .ok (.iconst (-1), 1) := by decide +kernel
theorem dX14_fewest_109 : decode cX14_fewest 109 = .ok (.if_icmp .eq 30, 3) := by decide +kernel
theorem dX14_fewest_112 : decode cX14_fewest 112 = .ok (.iload 4, 2) := by decide +kernel
theorem dX14_fewest_114 : decode cX14_fewest 114 = .ok (.invokestatic 419, 3) := by decide +kernel
theorem dX14_fewest_117 : decode cX14_fewest 117 = .ok (.iload_n 3, 1) := by decide +kernel
theorem dX14_fewest_118 : decode cX14_fewest 118 = .ok (.invokestatic 419, 3) := by decide +kernel
theorem dX14_fewest_121 : decode cX14_fewest 121 = .ok (.if_icmp .ne 18, 3) := by decide +kernel
theorem dX14_fewest_124 : decode cX14_fewest 124 = .ok (.iload 7, 2) := by decide +kernel
theorem dX14_fewest_126 : decode cX14_fewest 126 = .ok (.iload 7, 2) := by decide +kernel
theorem dX14_fewest_128 : decode cX14_fewest 128 = .ok (.ineg, 1) := by decide +kernel
theorem dX14_fewest_129 : decode cX14_fewest 129 = .ok (.iand, 1) := by decide +kernel
theorem dX14_fewest_130 : decode cX14_fewest 130 = .ok (.iload 4, 2) := by decide +kernel
theorem dX14_fewest_132 : decode cX14_fewest 132 = .ok (.iand, 1) := by decide +kernel
theorem dX14_fewest_133 : decode cX14_fewest 133 = .ok (.ifCond .ne 6, 3) := by decide +kernel
theorem dX14_fewest_136 : decode cX14_fewest 136 = .ok (.goto 6, 3) := by decide +kernel
theorem dX14_fewest_139 : decode cX14_fewest 139 = .ok (.iload 4, 2) := by decide +kernel
theorem dX14_fewest_141 : decode cX14_fewest 141 = .ok (.istore_n 3, 1) := by decide +kernel
theorem dX14_fewest_142 : decode cX14_fewest 142 = .ok (.iinc 4 1, 3) := by decide +kernel
theorem dX14_fewest_145 : decode cX14_fewest 145 = .ok (.goto (-130), 3) := by decide +kernel
theorem dX14_fewest_148 : decode cX14_fewest 148 = .ok (.aload_n 0, 1) := by decide +kernel
theorem dX14_fewest_149 : decode cX14_fewest 149 = .ok (.iconst 0, 1) := by decide +kernel
theorem dX14_fewest_150 : decode cX14_fewest 150 = .ok (.putfield 327, 3) := by decide +kernel
theorem dX14_fewest_153 : decode cX14_fewest 153 = .ok (.iconst 0, 1) := by decide +kernel
theorem dX14_fewest_154 : decode cX14_fewest 154 = .ok (.istore 4, 2) := by decide +kernel
theorem dX14_fewest_156 : decode cX14_fewest 156 = .ok (.iload 4, 2) := by decide +kernel
theorem dX14_fewest_158 : decode cX14_fewest 158 = .ok (.aload_n 0, 1) := by decide +kernel
theorem dX14_fewest_159 : decode cX14_fewest 159 = .ok (.getfield 324, 3) := by decide +kernel
theorem dX14_fewest_162 : decode cX14_fewest 162 = .ok (.if_icmp .ge 42, 3) := by decide +kernel
theorem dX14_fewest_165 : decode cX14_fewest 165 = .ok (.iload_n 3, 1) := by decide +kernel
theorem dX14_fewest_166 : decode cX14_fewest 166 = .ok (.iload 4, 2) := by decide +kernel
theorem dX14_fewest_168 : decode cX14_fewest 168 = .ok (.ishr, 1) := by decide +kernel
theorem dX14_fewest_169 : decode cX14_fewest 169 = .ok (.iconst 1, 1) := by decide +kernel
theorem dX14_fewest_170 : decode cX14_fewest 170 = .ok (.iand, 1) := by decide +kernel
theorem dX14_fewest_171 : decode cX14_fewest 171 = .ok (.ifCond .ne 6, 3) := by decide +kernel
theorem dX14_fewest_174 : decode cX14_fewest 174 = .ok (.goto 24, 3) := by decide +kernel
theorem dX14_fewest_177 : decode cX14_fewest 177 = .ok (.aload_n 0, 1) := by decide +kernel
theorem dX14_fewest_178 : decode cX14_fewest 178 = .ok (.getfield 69, 3) := by decide +kernel
theorem dX14_fewest_181 : decode cX14_fewest 181 = .ok (.aload_n 0, 1) := by decide +kernel
theorem dX14_fewest_182 : decode cX14_fewest 182 = .ok (.getfield 327, 3) := by decide +kernel
theorem dX14_fewest_185 : decode cX14_fewest 185 = .ok (.iload 4, 2) := by decide +kernel
theorem dX14_fewest_187 : decode cX14_fewest 187 = .ok (.iastore, 1) := by decide +kernel
theorem dX14_fewest_188 : decode cX14_fewest 188 = .ok (.aload_n 0, 1) := by decide +kernel
theorem dX14_fewest_189 : decode cX14_fewest 189 = .ok (.dup, 1) := by decide +kernel
theorem dX14_fewest_190 : decode cX14_fewest 190 = .ok (.getfield 327, 3) := by decide +kernel
theorem dX14_fewest_193 : decode cX14_fewest 193 = .ok (.iconst 1, 1) := by decide +kernel
theorem dX14_fewest_194 : decode cX14_fewest 194 = .ok (.iadd, 1) := by decide +kernel
theorem dX14_fewest_195 : decode cX14_fewest 195 = .ok (.putfield 327, 3) := by decide +kernel
theorem dX14_fewest_198 : decode cX14_fewest 198 = .ok (.iinc 4 1, 3) := by decide +kernel
theorem dX14_fewest_201 : decode cX14_fewest 201 = .ok (.goto (-45), 3) := by decide +kernel
theorem dX14_fewest_204 : decode cX14_fewest 204 = .ok (.aload_n 0, 1) := by decide +kernel
theorem dX14_fewest_205 : decode cX14_fewest 205 = .ok (.getfield 327, 3) := by decide +kernel
theorem dX14_fewest_208 : decode cX14_fewest 208 = .ok (.ireturn, 1) := by decide +kernel
theorem dX14_picked_0 : decode cX14_picked 0 = .ok (.aload_n 0, 1) := by decide +kernel
theorem dX14_picked_1 : decode cX14_picked 1 = .ok (.iconst 0, 1) := by decide +kernel
theorem dX14_picked_2 : decode cX14_picked 2 = .ok (.putfield 76, 3) := by decide +kernel
theorem dX14_picked_5 : decode cX14_picked 5 = .ok (.iload_n 1, 1) := by decide +kernel
theorem dX14_picked_6 : decode cX14_picked 6 = .ok (.ifCond .lt 20, 3) := by decide +kernel
theorem dX14_picked_9 : decode cX14_picked 9 = .ok (.iload_n 1, 1) := by decide +kernel
theorem dX14_picked_10 : decode cX14_picked 10 = .ok (.aload_n 0, 1) := by decide +kernel
theorem dX14_picked_11 : decode cX14_picked 11 = .ok (.getfield 327, 3) := by decide +kernel
theorem dX14_picked_14 : decode cX14_picked 14 = .ok (.if_icmp .ge 12, 3) := by decide +kernel
theorem dX14_picked_17 : decode cX14_picked 17 = .ok (.aload_n 0, 1) := by decide +kernel
theorem dX14_picked_18 : decode cX14_picked 18 = .ok (.getfield 69, 3) := by decide +kernel
theorem dX14_picked_21 : decode cX14_picked 21 = .ok (.iload_n 1, 1) := by decide +kernel
theorem dX14_picked_22 : decode cX14_picked 22 = .ok (.iaload, 1) := by decide +kernel
theorem dX14_picked_23 : decode cX14_picked 23 = .ok (.goto 4, 3) := by decide +kernel
theorem dX14_picked_26 : decode cX14_picked 26 = .ok (.iconst (-1), 1) := by decide +kernel
theorem dX14_picked_27 : decode cX14_picked 27 = .ok (.ireturn, 1) := by decide +kernel
theorem dX14_anew_0 : decode cX14_anew 0 = .ok (.aload_n 0, 1) := by decide +kernel
theorem dX14_anew_1 : decode cX14_anew 1 = .ok (.iconst 0, 1) := by decide +kernel
theorem dX14_anew_2 : decode cX14_anew 2 = .ok (.putfield 76, 3) := by decide +kernel
theorem dX14_anew_5 : decode cX14_anew 5 = .ok (.aload_n 0, 1) := by decide +kernel
theorem dX14_anew_6 : decode cX14_anew 6 = .ok (.iload_n 1, 1) := by decide +kernel
theorem dX14_anew_7 : decode cX14_anew 7 = .ok (.invokevirtual 336, 3) := by decide +kernel
theorem dX14_anew_10 : decode cX14_anew 10 = .ok (.ifCond .ne 5, 3) := by decide +kernel
theorem dX14_anew_13 : decode cX14_anew 13 = .ok (.iconst (-1), 1) := by decide +kernel
theorem dX14_anew_14 : decode cX14_anew 14 = .ok (.ireturn, 1) := by decide +kernel
theorem dX14_anew_15 : decode cX14_anew 15 = .ok (.aload_n 0, 1) := by decide +kernel
theorem dX14_anew_16 : decode cX14_anew 16 = .ok (.iload_n 1, 1) := by decide +kernel
theorem dX14_anew_17 : decode cX14_anew 17 = .ok (.invokevirtual 436, 3) := by decide +kernel
theorem dX14_anew_20 : decode cX14_anew 20 = .ok (.ifCond .eq 5, 3) := by decide +kernel
theorem dX14_anew_23 : decode cX14_anew 23 = .ok (.iconst 2, 1) := by decide +kernel
theorem dX14_anew_24 : decode cX14_anew 24 = .ok (.ireturn, 1) := by decide +kernel
theorem dX14_anew_25 : decode cX14_anew 25 = .ok (.aload_n 0, 1) := by decide +kernel
theorem dX14_anew_26 : decode cX14_anew 26 = .ok (.getfield 16, 3) := by decide +kernel
theorem dX14_anew_29 : decode cX14_anew 29 = .ok (.getfield 301, 3) := by decide +kernel
theorem dX14_anew_32 : decode cX14_anew 32 = .ok (.iload_n 1, 1) := by decide +kernel
theorem dX14_anew_33 : decode cX14_anew 33 = .ok (.iaload, 1) := by decide +kernel
theorem dX14_anew_34 : decode cX14_anew 34 = .ok (.istore_n 2, 1) := by decide +kernel
theorem dX14_anew_35 : decode cX14_anew 35 = .ok (.iconst (-1), 1) := by decide +kernel
theorem dX14_anew_36 : decode cX14_anew 36 = .ok (.istore_n 3, 1) := by decide +kernel
theorem dX14_anew_37 : decode cX14_anew 37 = .ok (.iload_n 2, 1) := by decide +kernel
theorem dX14_anew_38 : decode cX14_anew 38 = .ok (.iload_n 3, 1) := by decide +kernel
theorem dX14_anew_39 : decode cX14_anew 39 = .ok (.if_icmp .eq 56, 3) := by decide +kernel
theorem dX14_anew_42 : decode cX14_anew 42 = .ok (.iload_n 2, 1) := by decide +kernel
theorem dX14_anew_43 : decode cX14_anew 43 = .ok (.istore_n 3, 1) := by decide +kernel
theorem dX14_anew_44 : decode cX14_anew 44 = .ok (.iconst 0, 1) := by decide +kernel
theorem dX14_anew_45 : decode cX14_anew 45 = .ok (.istore 4, 2) := by decide +kernel
theorem dX14_anew_47 : decode cX14_anew 47 = .ok (.iload 4, 2) := by decide +kernel
theorem dX14_anew_49 : decode cX14_anew 49 = .ok (.aload_n 0, 1) := by decide +kernel
theorem dX14_anew_50 : decode cX14_anew 50 = .ok (.getfield 16, 3) := by decide +kernel
theorem dX14_anew_53 : decode cX14_anew 53 = .ok (.getfield 168, 3) := by decide +kernel
theorem dX14_anew_56 : decode cX14_anew 56 = .ok (.if_icmp .ge 36, 3) := by decide +kernel
theorem dX14_anew_59 : decode cX14_anew 59 = .ok (.iload_n 2, 1) := by decide +kernel
theorem dX14_anew_60 : decode cX14_anew 60 = .ok (.iload_n 2, 1) := by decide +kernel
theorem dX14_anew_61 : decode cX14_anew 61 = .ok (.iload 4, 2) := by decide +kernel
theorem dX14_anew_63 : decode cX14_anew 63 = .ok (.ishr, 1) := by decide +kernel
theorem dX14_anew_64 : decode cX14_anew 64 = .ok (.iconst 1, 1) := by decide +kernel
theorem dX14_anew_65 : decode cX14_anew 65 = .ok (.iand, 1) := by decide +kernel
theorem dX14_anew_66 : decode cX14_anew 66 = .ok (.iconst 1, 1) := by decide +kernel
theorem dX14_anew_67 : decode cX14_anew 67 = .ok (.if_icmp .ne 16, 3) := by decide +kernel
theorem dX14_anew_70 : decode cX14_anew 70 = .ok (.aload_n 0, 1) := by decide +kernel
theorem dX14_anew_71 : decode cX14_anew 71 = .ok (.getfield 16, 3) := by decide +kernel
theorem dX14_anew_74 : decode cX14_anew 74 = .ok (.getfield 301, 3) := by decide +kernel
theorem dX14_anew_77 : decode cX14_anew 77 = .ok (.iload 4, 2) := by decide +kernel
theorem dX14_anew_79 : decode cX14_anew 79 = .ok (.iaload, 1) := by decide +kernel
theorem dX14_anew_80 : decode cX14_anew 80 = .ok (.goto 4, 3) := by decide +kernel
theorem dX14_anew_83 : decode cX14_anew 83 = .ok (.iconst 0, 1) := by decide +kernel
theorem dX14_anew_84 : decode cX14_anew 84 = .ok (.ior, 1) := by decide +kernel
theorem dX14_anew_85 : decode cX14_anew 85 = .ok (.istore_n 2, 1) := by decide +kernel
theorem dX14_anew_86 : decode cX14_anew 86 = .ok (.iinc 4 1, 3) := by decide +kernel
theorem dX14_anew_89 : decode cX14_anew 89 = .ok (.goto (-42), 3) := by decide +kernel
theorem dX14_anew_92 : decode cX14_anew 92 = .ok (.goto (-55), 3) := by decide +kernel
theorem dX14_anew_95 : decode cX14_anew 95 = .ok (.iconst 0, 1) := by decide +kernel
theorem dX14_anew_96 : decode cX14_anew 96 = .ok (.istore 4, 2) := by decide +kernel
theorem dX14_anew_98 : decode cX14_anew 98 = .ok (.iconst 0, 1) := by decide +kernel
theorem dX14_anew_99 : decode cX14_anew 99 = .ok (.istore 5, 2) := by decide +kernel
theorem dX14_anew_101 : decode cX14_anew 101 = .ok (.iload 5, 2) := by decide +kernel
theorem dX14_anew_103 : decode cX14_anew 103 = .ok (.aload_n 0, 1) := by decide +kernel
theorem dX14_anew_104 : decode cX14_anew 104 = .ok (.getfield 16, 3) := by decide +kernel
theorem dX14_anew_107 : decode cX14_anew 107 = .ok (.getfield 168, 3) := by decide +kernel
theorem dX14_anew_110 : decode cX14_anew 110 = .ok (.if_icmp .ge 40, 3) := by decide +kernel
theorem dX14_anew_113 : decode cX14_anew 113 = .ok (.iload 4, 2) := by decide +kernel
theorem dX14_anew_115 : decode cX14_anew 115 = .ok (.ifCond .ne 22, 3) := by decide +kernel
theorem dX14_anew_118 : decode cX14_anew 118 = .ok (.iload_n 2, 1) := by decide +kernel
theorem dX14_anew_119 : decode cX14_anew 119 = .ok (.iload 5, 2) := by decide +kernel
theorem dX14_anew_121 : decode cX14_anew 121 = .ok (.ishr, 1) := by decide +kernel
theorem dX14_anew_122 : decode cX14_anew 122 = .ok (.iconst 1, 1) := by decide +kernel
theorem dX14_anew_123 : decode cX14_anew 123 = .ok (.iand, 1) := by decide +kernel
theorem dX14_anew_124 : decode cX14_anew 124 = .ok (.iconst 1, 1) := by decide +kernel
theorem dX14_anew_125 : decode cX14_anew 125 = .ok (.if_icmp .ne 16, 3) := by decide +kernel
theorem dX14_anew_128 : decode cX14_anew 128 = .ok (.aload_n 0, 1) := by decide +kernel
theorem dX14_anew_129 : decode cX14_anew 129 = .ok (.iload 5, 2) := by decide +kernel
theorem dX14_anew_131 : decode cX14_anew 131 = .ok (.invokevirtual 436, 3) := by decide +kernel
theorem dX14_anew_134 : decode cX14_anew 134 = .ok (.ifCond .eq 7, 3) := by decide +kernel
theorem dX14_anew_137 : decode cX14_anew 137 = .ok (.iconst 1, 1) := by decide +kernel
theorem dX14_anew_138 : decode cX14_anew 138 = .ok (.goto 4, 3) := by decide +kernel
theorem dX14_anew_141 : decode cX14_anew 141 = .ok (.iconst 0, 1) := by decide +kernel
theorem dX14_anew_142 : decode cX14_anew 142 = .ok (.istore 4, 2) := by decide +kernel
theorem dX14_anew_144 : decode cX14_anew 144 = .ok (.iinc 5 1, 3) := by decide +kernel
theorem dX14_anew_147 : decode cX14_anew 147 = .ok (.goto (-46), 3) := by decide +kernel
theorem dX14_anew_150 : decode cX14_anew 150 = .ok (.iload 4, 2) := by decide +kernel
theorem dX14_anew_152 : decode cX14_anew 152 = .ok (.ifCond .eq 7, 3) := by decide +kernel
theorem dX14_anew_155 : decode cX14_anew 155 = .ok (.iconst 1, 1) := by decide +kernel
theorem dX14_anew_156 : decode cX14_anew 156 = .ok (.goto 4, 3) := by decide +kernel
theorem dX14_anew_159 : decode cX14_anew 159 = .ok (.iconst 0, 1) := by decide +kernel
theorem dX14_anew_160 : decode cX14_anew 160 = .ok (.ireturn, 1) := by decide +kernel
theorem dX14_gone_0 : decode cX14_gone 0 = .ok (.aload_n 0, 1) := by decide +kernel
theorem dX14_gone_1 : decode cX14_gone 1 = .ok (.iconst 0, 1) := by decide +kernel
theorem dX14_gone_2 : decode cX14_gone 2 = .ok (.putfield 76, 3) := by decide +kernel
theorem dX14_gone_5 : decode cX14_gone 5 = .ok (.iconst 0, 1) := by decide +kernel
theorem dX14_gone_6 : decode cX14_gone 6 = .ok (.istore_n 1, 1) := by decide +kernel
theorem dX14_gone_7 : decode cX14_gone 7 = .ok (.iconst 0, 1) := by decide +kernel
theorem dX14_gone_8 : decode cX14_gone 8 = .ok (.istore_n 2, 1) := by decide +kernel
theorem dX14_gone_9 : decode cX14_gone 9 = .ok (.aload_n 0, 1) := by decide +kernel
theorem dX14_gone_10 : decode cX14_gone 10 = .ok (.getfield 321, 3) := by decide +kernel
theorem dX14_gone_13 : decode cX14_gone 13 = .ok (.ifCond .eq 48, 3) := by decide +kernel
theorem dX14_gone_16 : decode cX14_gone 16 = .ok (.iload_n 2, 1) := by decide +kernel
theorem dX14_gone_17 : decode cX14_gone 17 = .ok (.aload_n 0, 1) := by decide +kernel
theorem dX14_gone_18 : decode cX14_gone 18 = .ok (.getfield 20, 3) := by decide +kernel
theorem dX14_gone_21 : decode cX14_gone 21 = .ok (.getfield 168, 3) := by decide +kernel
theorem dX14_gone_24 : decode cX14_gone 24 = .ok (.if_icmp .ge 37, 3) := by decide +kernel
theorem dX14_gone_27 : decode cX14_gone 27 = .ok (.iload_n 1, 1) := by decide +kernel
theorem dX14_gone_28 : decode cX14_gone 28 = .ok (.aload_n 0, 1) := by decide +kernel
theorem dX14_gone_29 : decode cX14_gone 29 = .ok (.getfield 16, 3) := by decide +kernel
theorem dX14_gone_32 : decode cX14_gone 32 = .ok (.aload_n 0, 1) := by decide +kernel
theorem dX14_gone_33 : decode cX14_gone 33 = .ok (.getfield 20, 3) := by decide +kernel
theorem dX14_gone_36 : decode cX14_gone 36 = .ok (.getfield 215, 3) := by decide +kernel
theorem dX14_gone_39 : decode cX14_gone 39 = .ok (.iload_n 2, 1) := by decide +kernel
theorem dX14_gone_40 : decode cX14_gone 40 = .ok (.laload, 1) := by decide +kernel
theorem dX14_gone_41 : decode cX14_gone 41 = .ok (.invokevirtual 192, 3) := by decide +kernel
theorem dX14_gone_44 : decode cX14_gone 44 = .ok (.iconst (-1), 1) := by decide +kernel
theorem dX14_gone_45 : decode cX14_gone 45 = .ok (.if_icmp .ne 7, 3) := by decide +kernel
theorem dX14_gone_48 : decode cX14_gone 48 = .ok (.iconst 1, 1) := by decide +kernel
theorem dX14_gone_49 : decode cX14_gone 49 = .ok (.goto 4, 3) := by decide +kernel
theorem dX14_gone_52 : decode cX14_gone 52 = .ok (.iconst 0, 1) := by decide +kernel
theorem dX14_gone_53 : decode cX14_gone 53 = .ok (.iadd, 1) := by decide +kernel
theorem dX14_gone_54 : decode cX14_gone 54 = .ok (.istore_n 1, 1) := by decide +kernel
theorem dX14_gone_55 : decode cX14_gone 55 = .ok (.iinc 2 1, 3) := by decide +kernel
theorem dX14_gone_58 : decode cX14_gone 58 = .ok (.goto (-49), 3) := by decide +kernel
theorem dX14_gone_61 : decode cX14_gone 61 = .ok (.iload_n 1, 1) := by decide +kernel
theorem dX14_gone_62 : decode cX14_gone 62 = .ok (.ireturn, 1) := by decide +kernel
theorem dX14_count_0 : decode cX14_count 0 = .ok (.aload_n 0, 1) := by decide +kernel
theorem dX14_count_1 : decode cX14_count 1 = .ok (.iconst 0, 1) := by decide +kernel
theorem dX14_count_2 : decode cX14_count 2 = .ok (.putfield 76, 3) := by decide +kernel
theorem dX14_count_5 : decode cX14_count 5 = .ok (.iload_n 1, 1) := by decide +kernel
theorem dX14_count_6 : decode cX14_count 6 = .ok (.tableswitch 78 0 3 #[30, 49, 68, 73], 30) := by decide +kernel
theorem dX14_count_36 : decode cX14_count 36 = .ok (.aload_n 0, 1) := by decide +kernel
theorem dX14_count_37 : decode cX14_count 37 = .ok (.getfield 318, 3) := by decide +kernel
theorem dX14_count_40 : decode cX14_count 40 = .ok (.ifCond .eq 13, 3) := by decide +kernel
theorem dX14_count_43 : decode cX14_count 43 = .ok (.aload_n 0, 1) := by decide +kernel
theorem dX14_count_44 : decode cX14_count 44 = .ok (.getfield 16, 3) := by decide +kernel
theorem dX14_count_47 : decode cX14_count 47 = .ok (.getfield 168, 3) := by decide +kernel
theorem dX14_count_50 : decode cX14_count 50 = .ok (.goto 4, 3) := by decide +kernel
theorem dX14_count_53 : decode cX14_count 53 = .ok (.iconst 0, 1) := by decide +kernel
theorem dX14_count_54 : decode cX14_count 54 = .ok (.ireturn, 1) := by decide +kernel
theorem dX14_count_55 : decode cX14_count 55 = .ok (.aload_n 0, 1) := by decide +kernel
theorem dX14_count_56 : decode cX14_count 56 = .ok (.getfield 318, 3) := by decide +kernel
theorem dX14_count_59 : decode cX14_count 59 = .ok (.ifCond .eq 13, 3) := by decide +kernel
theorem dX14_count_62 : decode cX14_count 62 = .ok (.aload_n 0, 1) := by decide +kernel
theorem dX14_count_63 : decode cX14_count 63 = .ok (.getfield 16, 3) := by decide +kernel
theorem dX14_count_66 : decode cX14_count 66 = .ok (.getfield 171, 3) := by decide +kernel
theorem dX14_count_69 : decode cX14_count 69 = .ok (.goto 4, 3) := by decide +kernel
theorem dX14_count_72 : decode cX14_count 72 = .ok (.iconst 0, 1) := by decide +kernel
theorem dX14_count_73 : decode cX14_count 73 = .ok (.ireturn, 1) := by decide +kernel
theorem dX14_count_74 : decode cX14_count 74 = .ok (.aload_n 0, 1) := by decide +kernel
theorem dX14_count_75 : decode cX14_count 75 = .ok (.getfield 324, 3) := by decide +kernel
theorem dX14_count_78 : decode cX14_count 78 = .ok (.ireturn, 1) := by decide +kernel
theorem dX14_count_79 : decode cX14_count 79 = .ok (.aload_n 0, 1) := by decide +kernel
theorem dX14_count_80 : decode cX14_count 80 = .ok (.getfield 304, 3) := by decide +kernel
theorem dX14_count_83 : decode cX14_count 83 = .ok (.ireturn, 1) := by decide +kernel
theorem dX14_count_84 : decode cX14_count 84 = .ok (.iconst (-1), 1) := by decide +kernel
theorem dX14_count_85 : decode cX14_count 85 = .ok (.ireturn, 1) := by decide +kernel
theorem dX14_trouble_0 : decode cX14_trouble 0 = .ok (.aload_n 0, 1) := by decide +kernel
theorem dX14_trouble_1 : decode cX14_trouble 1 = .ok (.iconst 0, 1) := by decide +kernel
theorem dX14_trouble_2 : decode cX14_trouble 2 = .ok (.putfield 76, 3) := by decide +kernel
theorem dX14_trouble_5 : decode cX14_trouble 5 = .ok (.aload_n 0, 1) := by decide +kernel
theorem dX14_trouble_6 : decode cX14_trouble 6 = .ok (.getfield 79, 3) := by decide +kernel
theorem dX14_trouble_9 : decode cX14_trouble 9 = .ok (.ireturn, 1) := by decide +kernel
theorem dJ6_bitCount_0f7a4_0 : decode cJ6_bitCount_0f7a4 0 = .ok (.iload_n 0, 1) := by decide +kernel
theorem dJ6_bitCount_0f7a4_1 : decode cJ6_bitCount_0f7a4 1 = .ok (.iload_n 0, 1) := by decide +kernel
theorem dJ6_bitCount_0f7a4_2 : decode cJ6_bitCount_0f7a4 2 = .ok (.iconst 1, 1) := by decide +kernel
theorem dJ6_bitCount_0f7a4_3 : decode cJ6_bitCount_0f7a4 3 = .ok (.iushr, 1) := by decide +kernel
theorem dJ6_bitCount_0f7a4_4 : decode cJ6_bitCount_0f7a4 4 = .ok (.ldc_w 265, 3) := by decide +kernel
theorem dJ6_bitCount_0f7a4_7 : decode cJ6_bitCount_0f7a4 7 = .ok (.iand, 1) := by decide +kernel
theorem dJ6_bitCount_0f7a4_8 : decode cJ6_bitCount_0f7a4 8 = .ok (.isub, 1) := by decide +kernel
theorem dJ6_bitCount_0f7a4_9 : decode cJ6_bitCount_0f7a4 9 = .ok (.istore_n 0, 1) := by decide +kernel
theorem dJ6_bitCount_0f7a4_10 : decode cJ6_bitCount_0f7a4 10 = .ok (.iload_n 0, 1) := by decide +kernel
theorem dJ6_bitCount_0f7a4_11 : decode cJ6_bitCount_0f7a4 11 = .ok (.ldc_w 266, 3) := by decide +kernel
theorem dJ6_bitCount_0f7a4_14 : decode cJ6_bitCount_0f7a4 14 = .ok (.iand, 1) := by decide +kernel
theorem dJ6_bitCount_0f7a4_15 : decode cJ6_bitCount_0f7a4 15 = .ok (.iload_n 0, 1) := by decide +kernel
theorem dJ6_bitCount_0f7a4_16 : decode cJ6_bitCount_0f7a4 16 = .ok (.iconst 2, 1) := by decide +kernel
theorem dJ6_bitCount_0f7a4_17 : decode cJ6_bitCount_0f7a4 17 = .ok (.iushr, 1) := by decide +kernel
theorem dJ6_bitCount_0f7a4_18 : decode cJ6_bitCount_0f7a4 18 = .ok (.ldc_w 266, 3) := by decide +kernel
theorem dJ6_bitCount_0f7a4_21 : decode cJ6_bitCount_0f7a4 21 = .ok (.iand, 1) := by decide +kernel
theorem dJ6_bitCount_0f7a4_22 : decode cJ6_bitCount_0f7a4 22 = .ok (.iadd, 1) := by decide +kernel
theorem dJ6_bitCount_0f7a4_23 : decode cJ6_bitCount_0f7a4 23 = .ok (.istore_n 0, 1) := by decide +kernel
theorem dJ6_bitCount_0f7a4_24 : decode cJ6_bitCount_0f7a4 24 = .ok (.iload_n 0, 1) := by decide +kernel
theorem dJ6_bitCount_0f7a4_25 : decode cJ6_bitCount_0f7a4 25 = .ok (.iload_n 0, 1) := by decide +kernel
theorem dJ6_bitCount_0f7a4_26 : decode cJ6_bitCount_0f7a4 26 = .ok (.iconst 4, 1) := by decide +kernel
theorem dJ6_bitCount_0f7a4_27 : decode cJ6_bitCount_0f7a4 27 = .ok (.iushr, 1) := by decide +kernel
theorem dJ6_bitCount_0f7a4_28 : decode cJ6_bitCount_0f7a4 28 = .ok (.iadd, 1) := by decide +kernel
theorem dJ6_bitCount_0f7a4_29 : decode cJ6_bitCount_0f7a4 29 = .ok (.ldc_w 267, 3) := by decide +kernel
theorem dJ6_bitCount_0f7a4_32 : decode cJ6_bitCount_0f7a4 32 = .ok (.iand, 1) := by decide +kernel
theorem dJ6_bitCount_0f7a4_33 : decode cJ6_bitCount_0f7a4 33 = .ok (.istore_n 0, 1) := by decide +kernel
theorem dJ6_bitCount_0f7a4_34 : decode cJ6_bitCount_0f7a4 34 = .ok (.iload_n 0, 1) := by decide +kernel
theorem dJ6_bitCount_0f7a4_35 : decode cJ6_bitCount_0f7a4 35 = .ok (.iload_n 0, 1) := by decide +kernel
theorem dJ6_bitCount_0f7a4_36 : decode cJ6_bitCount_0f7a4 36 = .ok (.bipush 8, 2) := by decide +kernel
theorem dJ6_bitCount_0f7a4_38 : decode cJ6_bitCount_0f7a4 38 = .ok (.iushr, 1) := by decide +kernel
theorem dJ6_bitCount_0f7a4_39 : decode cJ6_bitCount_0f7a4 39 = .ok (.iadd, 1) := by decide +kernel
theorem dJ6_bitCount_0f7a4_40 : decode cJ6_bitCount_0f7a4 40 = .ok (.istore_n 0, 1) := by decide +kernel
theorem dJ6_bitCount_0f7a4_41 : decode cJ6_bitCount_0f7a4 41 = .ok (.iload_n 0, 1) := by decide +kernel
theorem dJ6_bitCount_0f7a4_42 : decode cJ6_bitCount_0f7a4 42 = .ok (.iload_n 0, 1) := by decide +kernel
theorem dJ6_bitCount_0f7a4_43 : decode cJ6_bitCount_0f7a4 43 = .ok (.bipush 16, 2) := by decide +kernel
theorem dJ6_bitCount_0f7a4_45 : decode cJ6_bitCount_0f7a4 45 = .ok (.iushr, 1) := by decide +kernel
theorem dJ6_bitCount_0f7a4_46 : decode cJ6_bitCount_0f7a4 46 = .ok (.iadd, 1) := by decide +kernel
theorem dJ6_bitCount_0f7a4_47 : decode cJ6_bitCount_0f7a4 47 = .ok (.istore_n 0, 1) := by decide +kernel
theorem dJ6_bitCount_0f7a4_48 : decode cJ6_bitCount_0f7a4 48 = .ok (.iload_n 0, 1) := by decide +kernel
theorem dJ6_bitCount_0f7a4_49 : decode cJ6_bitCount_0f7a4 49 = .ok (.bipush 63, 2) := by decide +kernel
theorem dJ6_bitCount_0f7a4_51 : decode cJ6_bitCount_0f7a4 51 = .ok (.iand, 1) := by decide +kernel
theorem dJ6_bitCount_0f7a4_52 : decode cJ6_bitCount_0f7a4 52 = .ok (.ireturn, 1) := by decide +kernel
theorem dJ13_bitCount_95d88_0 : decode cJ13_bitCount_95d88 0 = .ok (.lload_n 0, 1) := by decide +kernel
theorem dJ13_bitCount_95d88_1 : decode cJ13_bitCount_95d88 1 = .ok (.lload_n 0, 1) := by decide +kernel
theorem dJ13_bitCount_95d88_2 : decode cJ13_bitCount_95d88 2 = .ok (.iconst 1, 1) := by decide +kernel
theorem dJ13_bitCount_95d88_3 : decode cJ13_bitCount_95d88 3 = .ok (.lushr, 1) := by decide +kernel
theorem dJ13_bitCount_95d88_4 : decode cJ13_bitCount_95d88 4 = .ok (.ldc2_w 314, 3) := by decide +kernel
theorem dJ13_bitCount_95d88_7 : decode cJ13_bitCount_95d88 7 = .ok (.land, 1) := by decide +kernel
theorem dJ13_bitCount_95d88_8 : decode cJ13_bitCount_95d88 8 = .ok (.lsub, 1) := by decide +kernel
theorem dJ13_bitCount_95d88_9 : decode cJ13_bitCount_95d88 9 = .ok (.lstore_n 0, 1) := by decide +kernel
theorem dJ13_bitCount_95d88_10 : decode cJ13_bitCount_95d88 10 = .ok (.lload_n 0, 1) := by decide +kernel
theorem dJ13_bitCount_95d88_11 : decode cJ13_bitCount_95d88 11 = .ok (.ldc2_w 316, 3) := by decide +kernel
theorem dJ13_bitCount_95d88_14 : decode cJ13_bitCount_95d88 14 = .ok (.land, 1) := by decide +kernel
theorem dJ13_bitCount_95d88_15 : decode cJ13_bitCount_95d88 15 = .ok (.lload_n 0, 1) := by decide +kernel
theorem dJ13_bitCount_95d88_16 : decode cJ13_bitCount_95d88 16 = .ok (.iconst 2, 1) := by decide +kernel
theorem dJ13_bitCount_95d88_17 : decode cJ13_bitCount_95d88 17 = .ok (.lushr, 1) := by decide +kernel
theorem dJ13_bitCount_95d88_18 : decode cJ13_bitCount_95d88 18 = .ok (.ldc2_w 316, 3) := by decide +kernel
theorem dJ13_bitCount_95d88_21 : decode cJ13_bitCount_95d88 21 = .ok (.land, 1) := by decide +kernel
theorem dJ13_bitCount_95d88_22 : decode cJ13_bitCount_95d88 22 = .ok (.ladd, 1) := by decide +kernel
theorem dJ13_bitCount_95d88_23 : decode cJ13_bitCount_95d88 23 = .ok (.lstore_n 0, 1) := by decide +kernel
theorem dJ13_bitCount_95d88_24 : decode cJ13_bitCount_95d88 24 = .ok (.lload_n 0, 1) := by decide +kernel
theorem dJ13_bitCount_95d88_25 : decode cJ13_bitCount_95d88 25 = .ok (.lload_n 0, 1) := by decide +kernel
theorem dJ13_bitCount_95d88_26 : decode cJ13_bitCount_95d88 26 = .ok (.iconst 4, 1) := by decide +kernel
theorem dJ13_bitCount_95d88_27 : decode cJ13_bitCount_95d88 27 = .ok (.lushr, 1) := by decide +kernel
theorem dJ13_bitCount_95d88_28 : decode cJ13_bitCount_95d88 28 = .ok (.ladd, 1) := by decide +kernel
theorem dJ13_bitCount_95d88_29 : decode cJ13_bitCount_95d88 29 = .ok (.ldc2_w 318, 3) := by decide +kernel
theorem dJ13_bitCount_95d88_32 : decode cJ13_bitCount_95d88 32 = .ok (.land, 1) := by decide +kernel
theorem dJ13_bitCount_95d88_33 : decode cJ13_bitCount_95d88 33 = .ok (.lstore_n 0, 1) := by decide +kernel
theorem dJ13_bitCount_95d88_34 : decode cJ13_bitCount_95d88 34 = .ok (.lload_n 0, 1) := by decide +kernel
theorem dJ13_bitCount_95d88_35 : decode cJ13_bitCount_95d88 35 = .ok (.lload_n 0, 1) := by decide +kernel
theorem dJ13_bitCount_95d88_36 : decode cJ13_bitCount_95d88 36 = .ok (.bipush 8, 2) := by decide +kernel
theorem dJ13_bitCount_95d88_38 : decode cJ13_bitCount_95d88 38 = .ok (.lushr, 1) := by decide +kernel
theorem dJ13_bitCount_95d88_39 : decode cJ13_bitCount_95d88 39 = .ok (.ladd, 1) := by decide +kernel
theorem dJ13_bitCount_95d88_40 : decode cJ13_bitCount_95d88 40 = .ok (.lstore_n 0, 1) := by decide +kernel
theorem dJ13_bitCount_95d88_41 : decode cJ13_bitCount_95d88 41 = .ok (.lload_n 0, 1) := by decide +kernel
theorem dJ13_bitCount_95d88_42 : decode cJ13_bitCount_95d88 42 = .ok (.lload_n 0, 1) := by decide +kernel
theorem dJ13_bitCount_95d88_43 : decode cJ13_bitCount_95d88 43 = .ok (.bipush 16, 2) := by decide +kernel
theorem dJ13_bitCount_95d88_45 : decode cJ13_bitCount_95d88 45 = .ok (.lushr, 1) := by decide +kernel
theorem dJ13_bitCount_95d88_46 : decode cJ13_bitCount_95d88 46 = .ok (.ladd, 1) := by decide +kernel
theorem dJ13_bitCount_95d88_47 : decode cJ13_bitCount_95d88 47 = .ok (.lstore_n 0, 1) := by decide +kernel
theorem dJ13_bitCount_95d88_48 : decode cJ13_bitCount_95d88 48 = .ok (.lload_n 0, 1) := by decide +kernel
theorem dJ13_bitCount_95d88_49 : decode cJ13_bitCount_95d88 49 = .ok (.lload_n 0, 1) := by decide +kernel
theorem dJ13_bitCount_95d88_50 : decode cJ13_bitCount_95d88 50 = .ok (.bipush 32, 2) := by decide +kernel
theorem dJ13_bitCount_95d88_52 : decode cJ13_bitCount_95d88 52 = .ok (.lushr, 1) := by decide +kernel
theorem dJ13_bitCount_95d88_53 : decode cJ13_bitCount_95d88 53 = .ok (.ladd, 1) := by decide +kernel
theorem dJ13_bitCount_95d88_54 : decode cJ13_bitCount_95d88 54 = .ok (.lstore_n 0, 1) := by decide +kernel
theorem dJ13_bitCount_95d88_55 : decode cJ13_bitCount_95d88 55 = .ok (.lload_n 0, 1) := by decide +kernel
theorem dJ13_bitCount_95d88_56 : decode cJ13_bitCount_95d88 56 = .ok (.l2i, 1) := by decide +kernel
theorem dJ13_bitCount_95d88_57 : decode cJ13_bitCount_95d88 57 = .ok (.bipush 127, 2) := by decide +kernel
theorem dJ13_bitCount_95d88_59 : decode cJ13_bitCount_95d88 59 = .ok (.iand, 1) := by decide +kernel
theorem dJ13_bitCount_95d88_60 : decode cJ13_bitCount_95d88 60 = .ok (.ireturn, 1) := by decide +kernel
theorem dJ9_max_7cf53_0 : decode cJ9_max_7cf53 0 = .ok (.iload_n 0, 1) := by decide +kernel
theorem dJ9_max_7cf53_1 : decode cJ9_max_7cf53 1 = .ok (.iload_n 1, 1) := by decide +kernel
theorem dJ9_max_7cf53_2 : decode cJ9_max_7cf53 2 = .ok (.if_icmp .lt 7, 3) := by decide +kernel
theorem dJ9_max_7cf53_5 : decode cJ9_max_7cf53 5 = .ok (.iload_n 0, 1) := by decide +kernel
theorem dJ9_max_7cf53_6 : decode cJ9_max_7cf53 6 = .ok (.goto 4, 3) := by decide +kernel
theorem dJ9_max_7cf53_9 : decode cJ9_max_7cf53 9 = .ok (.iload_n 1, 1) := by decide +kernel
theorem dJ9_max_7cf53_10 : decode cJ9_max_7cf53 10 = .ok (.ireturn, 1) := by decide +kernel
theorem dJ9_min_7cf53_0 : decode cJ9_min_7cf53 0 = .ok (.iload_n 0, 1) := by decide +kernel
theorem dJ9_min_7cf53_1 : decode cJ9_min_7cf53 1 = .ok (.iload_n 1, 1) := by decide +kernel
theorem dJ9_min_7cf53_2 : decode cJ9_min_7cf53 2 = .ok (.if_icmp .gt 7, 3) := by decide +kernel
theorem dJ9_min_7cf53_5 : decode cJ9_min_7cf53 5 = .ok (.iload_n 0, 1) := by decide +kernel
theorem dJ9_min_7cf53_6 : decode cJ9_min_7cf53 6 = .ok (.goto 4, 3) := by decide +kernel
theorem dJ9_min_7cf53_9 : decode cJ9_min_7cf53 9 = .ok (.iload_n 1, 1) := by decide +kernel
theorem dJ9_min_7cf53_10 : decode cJ9_min_7cf53 10 = .ok (.ireturn, 1) := by decide +kernel
theorem dL_name_0 : decode cL_name 0 = .ok (.aload_n 3, 1) := by decide +kernel
theorem dL_name_1 : decode cL_name 1 = .ok (.iconst 0, 1) := by decide +kernel
theorem dL_name_2 : decode cL_name 2 = .ok (.aload_n 0, 1) := by decide +kernel
theorem dL_name_3 : decode cL_name 3 = .ok (.iload_n 1, 1) := by decide +kernel
theorem dL_name_4 : decode cL_name 4 = .ok (.iload_n 2, 1) := by decide +kernel
theorem dL_name_5 : decode cL_name 5 = .ok (.invokevirtual 7, 3) := by decide +kernel
theorem dL_name_8 : decode cL_name 8 = .ok (.i2l, 1) := by decide +kernel
theorem dL_name_9 : decode cL_name 9 = .ok (.lastore, 1) := by decide +kernel
theorem dL_name_10 : decode cL_name 10 = .ok (.goto 7, 3) := by decide +kernel
theorem dL_name_13 : decode cL_name 13 = .ok (.astore 4, 2) := by decide +kernel
theorem dL_name_15 : decode cL_name 15 = .ok (.iconst 1, 1) := by decide +kernel
theorem dL_name_16 : decode cL_name 16 = .ok (.ireturn, 1) := by decide +kernel
theorem dL_name_17 : decode cL_name 17 = .ok (.iconst 0, 1) := by decide +kernel
theorem dL_name_18 : decode cL_name 18 = .ok (.ireturn, 1) := by decide +kernel
theorem dL_said_0 : decode cL_said 0 = .ok (.aload_n 2, 1) := by decide +kernel
theorem dL_said_1 : decode cL_said 1 = .ok (.iconst 0, 1) := by decide +kernel
theorem dL_said_2 : decode cL_said 2 = .ok (.aload_n 0, 1) := by decide +kernel
theorem dL_said_3 : decode cL_said 3 = .ok (.iload_n 1, 1) := by decide +kernel
theorem dL_said_4 : decode cL_said 4 = .ok (.invokevirtual 15, 3) := by decide +kernel
theorem dL_said_7 : decode cL_said 7 = .ok (.i2l, 1) := by decide +kernel
theorem dL_said_8 : decode cL_said 8 = .ok (.lastore, 1) := by decide +kernel
theorem dL_said_9 : decode cL_said 9 = .ok (.goto 6, 3) := by decide +kernel
theorem dL_said_12 : decode cL_said 12 = .ok (.astore_n 3, 1) := by decide +kernel
theorem dL_said_13 : decode cL_said 13 = .ok (.iconst 1, 1) := by decide +kernel
theorem dL_said_14 : decode cL_said 14 = .ok (.ireturn, 1) := by decide +kernel
theorem dL_said_15 : decode cL_said 15 = .ok (.iconst 0, 1) := by decide +kernel
theorem dL_said_16 : decode cL_said 16 = .ok (.ireturn, 1) := by decide +kernel
theorem dL_trace_0 : decode cL_trace 0 = .ok (.aload_n 3, 1) := by decide +kernel
theorem dL_trace_1 : decode cL_trace 1 = .ok (.iconst 0, 1) := by decide +kernel
theorem dL_trace_2 : decode cL_trace 2 = .ok (.aload_n 0, 1) := by decide +kernel
theorem dL_trace_3 : decode cL_trace 3 = .ok (.iload_n 1, 1) := by decide +kernel
theorem dL_trace_4 : decode cL_trace 4 = .ok (.iload_n 2, 1) := by decide +kernel
theorem dL_trace_5 : decode cL_trace 5 = .ok (.invokevirtual 19, 3) := by decide +kernel
theorem dL_trace_8 : decode cL_trace 8 = .ok (.i2l, 1) := by decide +kernel
theorem dL_trace_9 : decode cL_trace 9 = .ok (.lastore, 1) := by decide +kernel
theorem dL_trace_10 : decode cL_trace 10 = .ok (.goto 7, 3) := by decide +kernel
theorem dL_trace_13 : decode cL_trace 13 = .ok (.astore 4, 2) := by decide +kernel
theorem dL_trace_15 : decode cL_trace 15 = .ok (.iconst 1, 1) := by decide +kernel
theorem dL_trace_16 : decode cL_trace 16 = .ok (.ireturn, 1) := by decide +kernel
theorem dL_trace_17 : decode cL_trace 17 = .ok (.iconst 0, 1) := by decide +kernel
theorem dL_trace_18 : decode cL_trace 18 = .ok (.ireturn, 1) := by decide +kernel
theorem dL_law_0 : decode cL_law 0 = .ok (.new 8, 3) := by decide +kernel
theorem dL_law_3 : decode cL_law 3 = .ok (.dup, 1) := by decide +kernel
theorem dL_law_4 : decode cL_law 4 = .ok (.invokespecial 22, 3) := by decide +kernel
theorem dL_law_7 : decode cL_law 7 = .ok (.astore_n 1, 1) := by decide +kernel
theorem dL_law_8 : decode cL_law 8 = .ok (.new 23, 3) := by decide +kernel
theorem dL_law_11 : decode cL_law 11 = .ok (.dup, 1) := by decide +kernel
theorem dL_law_12 : decode cL_law 12 = .ok (.invokespecial 25, 3) := by decide +kernel
theorem dL_law_15 : decode cL_law 15 = .ok (.astore_n 2, 1) := by decide +kernel
theorem dL_law_16 : decode cL_law 16 = .ok (.iconst 1, 1) := by decide +kernel
theorem dL_law_17 : decode cL_law 17 = .ok (.newarray .long, 2) := by decide +kernel
theorem dL_law_19 : decode cL_law 19 = .ok (.astore_n 3, 1) := by decide +kernel
theorem dL_law_20 : decode cL_law 20 = .ok (.iconst 0, 1) := by decide +kernel
theorem dL_law_21 : decode cL_law 21 = .ok (.istore 4, 2) := by decide +kernel
theorem dL_law_23 : decode cL_law 23 = .ok (.iload 4, 2) := by decide +kernel
theorem dL_law_25 : decode cL_law 25 = .ok (.aload_n 0, 1) := by decide +kernel
theorem dL_law_26 : decode cL_law 26 = .ok (.arraylength, 1) := by decide +kernel
theorem dL_law_27 : decode cL_law 27 = .ok (.bipush 6, 2) := by decide +kernel
theorem dL_law_29 : decode cL_law 29 = .ok (.isub, 1) := by decide +kernel
theorem dL_law_30 : decode cL_law 30 = .ok (.if_icmp .gt 1030, 3) := by decide +kernel
theorem dL_law_33 : decode cL_law 33 = .ok (.aload_n 0, 1) := by decide +kernel
theorem dL_law_34 : decode cL_law 34 = .ok (.iload 4, 2) := by decide +kernel
theorem dL_law_36 : decode cL_law 36 = .ok (.iaload, 1) := by decide +kernel
theorem dL_law_37 : decode cL_law 37 = .ok (.bipush 31, 2) := by decide +kernel
theorem dL_law_39 : decode cL_law 39 = .ok (.iand, 1) := by decide +kernel
theorem dL_law_40 : decode cL_law 40 = .ok (.tableswitch 1014 0 24 #[116, 189, 214, 227, 240, 277, 345, 382, 455, 480, 536, 604, 629, 654, 727, 788, 801, 826, 887, 900, 913, 938, 963, 976, 1001], 116) := by decide +kernel
theorem dL_law_156 : decode cL_law 156 = .ok (.aload_n 1, 1) := by decide +kernel
theorem dL_law_157 : decode cL_law 157 = .ok (.aload_n 0, 1) := by decide +kernel
theorem dL_law_158 : decode cL_law 158 = .ok (.iload 4, 2) := by decide +kernel
theorem dL_law_160 : decode cL_law 160 = .ok (.iconst 1, 1) := by decide +kernel
theorem dL_law_161 : decode cL_law 161 = .ok (.iadd, 1) := by decide +kernel
theorem dL_law_162 : decode cL_law 162 = .ok (.iaload, 1) := by decide +kernel
theorem dL_law_163 : decode cL_law 163 = .ok (.aload_n 0, 1) := by decide +kernel
theorem dL_law_164 : decode cL_law 164 = .ok (.iload 4, 2) := by decide +kernel
theorem dL_law_166 : decode cL_law 166 = .ok (.iconst 2, 1) := by decide +kernel
theorem dL_law_167 : decode cL_law 167 = .ok (.iadd, 1) := by decide +kernel
theorem dL_law_168 : decode cL_law 168 = .ok (.iaload, 1) := by decide +kernel
theorem dL_law_169 : decode cL_law 169 = .ok (.aload_n 0, 1) := by decide +kernel
theorem dL_law_170 : decode cL_law 170 = .ok (.iload 4, 2) := by decide +kernel
theorem dL_law_172 : decode cL_law 172 = .ok (.iconst 3, 1) := by decide +kernel
theorem dL_law_173 : decode cL_law 173 = .ok (.iadd, 1) := by decide +kernel
theorem dL_law_174 : decode cL_law 174 = .ok (.iaload, 1) := by decide +kernel
theorem dL_law_175 : decode cL_law 175 = .ok (.aload_n 0, 1) := by decide +kernel
theorem dL_law_176 : decode cL_law 176 = .ok (.iload 4, 2) := by decide +kernel
theorem dL_law_178 : decode cL_law 178 = .ok (.iconst 4, 1) := by decide +kernel
theorem dL_law_179 : decode cL_law 179 = .ok (.iadd, 1) := by decide +kernel
theorem dL_law_180 : decode cL_law 180 = .ok (.iaload, 1) := by decide +kernel
theorem dL_law_181 : decode cL_law 181 = .ok (.aload_n 0, 1) := by decide +kernel
theorem dL_law_182 : decode cL_law 182 = .ok (.iload 4, 2) := by decide +kernel
theorem dL_law_184 : decode cL_law 184 = .ok (.iconst 5, 1) := by decide +kernel
theorem dL_law_185 : decode cL_law 185 = .ok (.iadd, 1) := by decide +kernel
theorem dL_law_186 : decode cL_law 186 = .ok (.iaload, 1) := by decide +kernel
theorem dL_law_187 : decode cL_law 187 = .ok (.invokevirtual 26, 3) := by decide +kernel
theorem dL_law_190 : decode cL_law 190 = .ok (.aload_n 2, 1) := by decide +kernel
theorem dL_law_191 : decode cL_law 191 = .ok (.aload_n 0, 1) := by decide +kernel
theorem dL_law_192 : decode cL_law 192 = .ok (.iload 4, 2) := by decide +kernel
theorem dL_law_194 : decode cL_law 194 = .ok (.iconst 1, 1) := by decide +kernel
theorem dL_law_195 : decode cL_law 195 = .ok (.iadd, 1) := by decide +kernel
theorem dL_law_196 : decode cL_law 196 = .ok (.iaload, 1) := by decide +kernel
theorem dL_law_197 : decode cL_law 197 = .ok (.aload_n 0, 1) := by decide +kernel
theorem dL_law_198 : decode cL_law 198 = .ok (.iload 4, 2) := by decide +kernel
theorem dL_law_200 : decode cL_law 200 = .ok (.iconst 2, 1) := by decide +kernel
theorem dL_law_201 : decode cL_law 201 = .ok (.iadd, 1) := by decide +kernel
theorem dL_law_202 : decode cL_law 202 = .ok (.iaload, 1) := by decide +kernel
theorem dL_law_203 : decode cL_law 203 = .ok (.aload_n 0, 1) := by decide +kernel
theorem dL_law_204 : decode cL_law 204 = .ok (.iload 4, 2) := by decide +kernel
theorem dL_law_206 : decode cL_law 206 = .ok (.iconst 3, 1) := by decide +kernel
theorem dL_law_207 : decode cL_law 207 = .ok (.iadd, 1) := by decide +kernel
theorem dL_law_208 : decode cL_law 208 = .ok (.iaload, 1) := by decide +kernel
theorem dL_law_209 : decode cL_law 209 = .ok (.aload_n 0, 1) := by decide +kernel
theorem dL_law_210 : decode cL_law 210 = .ok (.iload 4, 2) := by decide +kernel
theorem dL_law_212 : decode cL_law 212 = .ok (.iconst 4, 1) := by decide +kernel
theorem dL_law_213 : decode cL_law 213 = .ok (.iadd, 1) := by decide +kernel
theorem dL_law_214 : decode cL_law 214 = .ok (.iaload, 1) := by decide +kernel
theorem dL_law_215 : decode cL_law 215 = .ok (.aload_n 0, 1) := by decide +kernel
theorem dL_law_216 : decode cL_law 216 = .ok (.iload 4, 2) := by decide +kernel
theorem dL_law_218 : decode cL_law 218 = .ok (.iconst 5, 1) := by decide +kernel
theorem dL_law_219 : decode cL_law 219 = .ok (.iadd, 1) := by decide +kernel
theorem dL_law_220 : decode cL_law 220 = .ok (.iaload, 1) := by decide +kernel
theorem dL_law_221 : decode cL_law 221 = .ok (.invokevirtual 30, 3) := by decide +kernel
theorem dL_law_224 : decode cL_law 224 = .ok (.if_icmp .eq 830, 3) := by decide +kernel
theorem dL_law_227 : decode cL_law 227 = .ok (.iconst 0, 1) := by decide +kernel
theorem dL_law_228 : decode cL_law 228 = .ok (.ireturn, 1) := by decide +kernel
theorem dL_law_229 : decode cL_law 229 = .ok (.aload_n 1, 1) := by decide +kernel
theorem dL_law_230 : decode cL_law 230 = .ok (.aload_n 0, 1) := by decide +kernel
theorem dL_law_231 : decode cL_law 231 = .ok (.iload 4, 2) := by decide +kernel
theorem dL_law_233 : decode cL_law 233 = .ok (.iconst 1, 1) := by decide +kernel
theorem dL_law_234 : decode cL_law 234 = .ok (.iadd, 1) := by decide +kernel
theorem dL_law_235 : decode cL_law 235 = .ok (.iaload, 1) := by decide +kernel
theorem dL_law_236 : decode cL_law 236 = .ok (.invokevirtual 31, 3) := by decide +kernel
theorem dL_law_239 : decode cL_law 239 = .ok (.aload_n 2, 1) := by decide +kernel
theorem dL_law_240 : decode cL_law 240 = .ok (.aload_n 0, 1) := by decide +kernel
theorem dL_law_241 : decode cL_law 241 = .ok (.iload 4, 2) := by decide +kernel
theorem dL_law_243 : decode cL_law 243 = .ok (.iconst 1, 1) := by decide +kernel
theorem dL_law_244 : decode cL_law 244 = .ok (.iadd, 1) := by decide +kernel
theorem dL_law_245 : decode cL_law 245 = .ok (.iaload, 1) := by decide +kernel
theorem dL_law_246 : decode cL_law 246 = .ok (.invokevirtual 34, 3) := by decide +kernel
theorem dL_law_249 : decode cL_law 249 = .ok (.if_icmp .eq 805, 3) := by decide +kernel
theorem dL_law_252 : decode cL_law 252 = .ok (.iconst 0, 1) := by decide +kernel
theorem dL_law_253 : decode cL_law 253 = .ok (.ireturn, 1) := by decide +kernel
theorem dL_law_254 : decode cL_law 254 = .ok (.aload_n 1, 1) := by decide +kernel
theorem dL_law_255 : decode cL_law 255 = .ok (.invokevirtual 35, 3) := by decide +kernel
theorem dL_law_258 : decode cL_law 258 = .ok (.aload_n 2, 1) := by decide +kernel
theorem dL_law_259 : decode cL_law 259 = .ok (.invokevirtual 39, 3) := by decide +kernel
theorem dL_law_262 : decode cL_law 262 = .ok (.if_icmp .eq 792, 3) := by decide +kernel
theorem dL_law_265 : decode cL_law 265 = .ok (.iconst 0, 1) := by decide +kernel
theorem dL_law_266 : decode cL_law 266 = .ok (.ireturn, 1) := by decide +kernel
theorem dL_law_267 : decode cL_law 267 = .ok (.aload_n 1, 1) := by decide +kernel
theorem dL_law_268 : decode cL_law 268 = .ok (.invokevirtual 40, 3) := by decide +kernel
theorem dL_law_271 : decode cL_law 271 = .ok (.aload_n 2, 1) := by decide +kernel
theorem dL_law_272 : decode cL_law 272 = .ok (.invokevirtual 43, 3) := by decide +kernel
theorem dL_law_275 : decode cL_law 275 = .ok (.if_icmp .eq 779, 3) := by decide +kernel
theorem dL_law_278 : decode cL_law 278 = .ok (.iconst 0, 1) := by decide +kernel
theorem dL_law_279 : decode cL_law 279 = .ok (.ireturn, 1) := by decide +kernel
theorem dL_law_280 : decode cL_law 280 = .ok (.aload_n 1, 1) := by decide +kernel
theorem dL_law_281 : decode cL_law 281 = .ok (.aload_n 0, 1) := by decide +kernel
theorem dL_law_282 : decode cL_law 282 = .ok (.iload 4, 2) := by decide +kernel
theorem dL_law_284 : decode cL_law 284 = .ok (.iconst 1, 1) := by decide +kernel
theorem dL_law_285 : decode cL_law 285 = .ok (.iadd, 1) := by decide +kernel
theorem dL_law_286 : decode cL_law 286 = .ok (.iaload, 1) := by decide +kernel
theorem dL_law_287 : decode cL_law 287 = .ok (.aload_n 0, 1) := by decide +kernel
theorem dL_law_288 : decode cL_law 288 = .ok (.iload 4, 2) := by decide +kernel
theorem dL_law_290 : decode cL_law 290 = .ok (.iconst 2, 1) := by decide +kernel
theorem dL_law_291 : decode cL_law 291 = .ok (.iadd, 1) := by decide +kernel
theorem dL_law_292 : decode cL_law 292 = .ok (.iaload, 1) := by decide +kernel
theorem dL_law_293 : decode cL_law 293 = .ok (.invokevirtual 44, 3) := by decide +kernel
theorem dL_law_296 : decode cL_law 296 = .ok (.aload_n 2, 1) := by decide +kernel
theorem dL_law_297 : decode cL_law 297 = .ok (.aload_n 0, 1) := by decide +kernel
theorem dL_law_298 : decode cL_law 298 = .ok (.iload 4, 2) := by decide +kernel
theorem dL_law_300 : decode cL_law 300 = .ok (.iconst 1, 1) := by decide +kernel
theorem dL_law_301 : decode cL_law 301 = .ok (.iadd, 1) := by decide +kernel
theorem dL_law_302 : decode cL_law 302 = .ok (.iaload, 1) := by decide +kernel
theorem dL_law_303 : decode cL_law 303 = .ok (.aload_n 0, 1) := by decide +kernel
theorem dL_law_304 : decode cL_law 304 = .ok (.iload 4, 2) := by decide +kernel
theorem dL_law_306 : decode cL_law 306 = .ok (.iconst 2, 1) := by decide +kernel
theorem dL_law_307 : decode cL_law 307 = .ok (.iadd, 1) := by decide +kernel
theorem dL_law_308 : decode cL_law 308 = .ok (.iaload, 1) := by decide +kernel
theorem dL_law_309 : decode cL_law 309 = .ok (.invokevirtual 47, 3) := by decide +kernel
theorem dL_law_312 : decode cL_law 312 = .ok (.if_icmp .eq 742, 3) := by decide +kernel
theorem dL_law_315 : decode cL_law 315 = .ok (.iconst 0, 1) := by decide +kernel
theorem dL_law_316 : decode cL_law 316 = .ok (.ireturn, 1) := by decide +kernel
theorem dL_law_317 : decode cL_law 317 = .ok (.aload_n 1, 1) := by decide +kernel
theorem dL_law_318 : decode cL_law 318 = .ok (.aload_n 0, 1) := by decide +kernel
theorem dL_law_319 : decode cL_law 319 = .ok (.iload 4, 2) := by decide +kernel
theorem dL_law_321 : decode cL_law 321 = .ok (.iconst 1, 1) := by decide +kernel
theorem dL_law_322 : decode cL_law 322 = .ok (.iadd, 1) := by decide +kernel
theorem dL_law_323 : decode cL_law 323 = .ok (.iaload, 1) := by decide +kernel
theorem dL_law_324 : decode cL_law 324 = .ok (.aload_n 0, 1) := by decide +kernel
theorem dL_law_325 : decode cL_law 325 = .ok (.iload 4, 2) := by decide +kernel
theorem dL_law_327 : decode cL_law 327 = .ok (.iconst 2, 1) := by decide +kernel
theorem dL_law_328 : decode cL_law 328 = .ok (.iadd, 1) := by decide +kernel
theorem dL_law_329 : decode cL_law 329 = .ok (.iaload, 1) := by decide +kernel
theorem dL_law_330 : decode cL_law 330 = .ok (.aload_n 3, 1) := by decide +kernel
theorem dL_law_331 : decode cL_law 331 = .ok (.invokestatic 48, 3) := by decide +kernel
theorem dL_law_334 : decode cL_law 334 = .ok (.istore 5, 2) := by decide +kernel
theorem dL_law_336 : decode cL_law 336 = .ok (.aload_n 2, 1) := by decide +kernel
theorem dL_law_337 : decode cL_law 337 = .ok (.aload_n 0, 1) := by decide +kernel
theorem dL_law_338 : decode cL_law 338 = .ok (.iload 4, 2) := by decide +kernel
theorem dL_law_340 : decode cL_law 340 = .ok (.iconst 1, 1) := by decide +kernel
theorem dL_law_341 : decode cL_law 341 = .ok (.iadd, 1) := by decide +kernel
theorem dL_law_342 : decode cL_law 342 = .ok (.iaload, 1) := by decide +kernel
theorem dL_law_343 : decode cL_law 343 = .ok (.aload_n 0, 1) := by decide +kernel
theorem dL_law_344 : decode cL_law 344 = .ok (.iload 4, 2) := by decide +kernel
theorem dL_law_346 : decode cL_law 346 = .ok (.iconst 2, 1) := by decide +kernel
theorem dL_law_347 : decode cL_law 347 = .ok (.iadd, 1) := by decide +kernel
theorem dL_law_348 : decode cL_law 348 = .ok (.iaload, 1) := by decide +kernel
theorem dL_law_349 : decode cL_law 349 = .ok (.invokevirtual 53, 3) := by decide +kernel
theorem dL_law_352 : decode cL_law 352 = .ok (.istore 6, 2) := by decide +kernel
theorem dL_law_354 : decode cL_law 354 = .ok (.aload_n 2, 1) := by decide +kernel
theorem dL_law_355 : decode cL_law 355 = .ok (.invokevirtual 54, 3) := by decide +kernel
theorem dL_law_358 : decode cL_law 358 = .ok (.iload 5, 2) := by decide +kernel
theorem dL_law_360 : decode cL_law 360 = .ok (.if_icmp .eq 5, 3) := by decide +kernel
theorem dL_law_363 : decode cL_law 363 = .ok (.iconst 0, 1) := by decide +kernel
theorem dL_law_364 : decode cL_law 364 = .ok (.ireturn, 1) := by decide +kernel
theorem dL_law_365 : decode cL_law 365 = .ok (.iload 5, 2) := by decide +kernel
theorem dL_law_367 : decode cL_law 367 = .ok (.ifCond .ne 15, 3) := by decide +kernel
theorem dL_law_370 : decode cL_law 370 = .ok (.aload_n 3, 1) := by decide +kernel
theorem dL_law_371 : decode cL_law 371 = .ok (.iconst 0, 1) := by decide +kernel
theorem dL_law_372 : decode cL_law 372 = .ok (.laload, 1) := by decide +kernel
theorem dL_law_373 : decode cL_law 373 = .ok (.iload 6, 2) := by decide +kernel
theorem dL_law_375 : decode cL_law 375 = .ok (.i2l, 1) := by decide +kernel
theorem dL_law_376 : decode cL_law 376 = .ok (.lcmp, 1) := by decide +kernel
theorem dL_law_377 : decode cL_law 377 = .ok (.ifCond .eq 5, 3) := by decide +kernel
theorem dL_law_380 : decode cL_law 380 = .ok (.iconst 0, 1) := by decide +kernel
theorem dL_law_381 : decode cL_law 381 = .ok (.ireturn, 1) := by decide +kernel
theorem dL_law_382 : decode cL_law 382 = .ok (.goto 672, 3) := by decide +kernel
theorem dL_law_385 : decode cL_law 385 = .ok (.aload_n 1, 1) := by decide +kernel
theorem dL_law_386 : decode cL_law 386 = .ok (.aload_n 0, 1) := by decide +kernel
theorem dL_law_387 : decode cL_law 387 = .ok (.iload 4, 2) := by decide +kernel
theorem dL_law_389 : decode cL_law 389 = .ok (.iconst 1, 1) := by decide +kernel
theorem dL_law_390 : decode cL_law 390 = .ok (.iadd, 1) := by decide +kernel
theorem dL_law_391 : decode cL_law 391 = .ok (.iaload, 1) := by decide +kernel
theorem dL_law_392 : decode cL_law 392 = .ok (.aload_n 0, 1) := by decide +kernel
theorem dL_law_393 : decode cL_law 393 = .ok (.iload 4, 2) := by decide +kernel
theorem dL_law_395 : decode cL_law 395 = .ok (.iconst 2, 1) := by decide +kernel
theorem dL_law_396 : decode cL_law 396 = .ok (.iadd, 1) := by decide +kernel
theorem dL_law_397 : decode cL_law 397 = .ok (.iaload, 1) := by decide +kernel
theorem dL_law_398 : decode cL_law 398 = .ok (.invokevirtual 57, 3) := by decide +kernel
theorem dL_law_401 : decode cL_law 401 = .ok (.aload_n 2, 1) := by decide +kernel
theorem dL_law_402 : decode cL_law 402 = .ok (.aload_n 0, 1) := by decide +kernel
theorem dL_law_403 : decode cL_law 403 = .ok (.iload 4, 2) := by decide +kernel
theorem dL_law_405 : decode cL_law 405 = .ok (.iconst 1, 1) := by decide +kernel
theorem dL_law_406 : decode cL_law 406 = .ok (.iadd, 1) := by decide +kernel
theorem dL_law_407 : decode cL_law 407 = .ok (.iaload, 1) := by decide +kernel
theorem dL_law_408 : decode cL_law 408 = .ok (.aload_n 0, 1) := by decide +kernel
theorem dL_law_409 : decode cL_law 409 = .ok (.iload 4, 2) := by decide +kernel
theorem dL_law_411 : decode cL_law 411 = .ok (.iconst 2, 1) := by decide +kernel
theorem dL_law_412 : decode cL_law 412 = .ok (.iadd, 1) := by decide +kernel
theorem dL_law_413 : decode cL_law 413 = .ok (.iaload, 1) := by decide +kernel
theorem dL_law_414 : decode cL_law 414 = .ok (.invokevirtual 60, 3) := by decide +kernel
theorem dL_law_417 : decode cL_law 417 = .ok (.if_icmp .eq 637, 3) := by decide +kernel
theorem dL_law_420 : decode cL_law 420 = .ok (.iconst 0, 1) := by decide +kernel
theorem dL_law_421 : decode cL_law 421 = .ok (.ireturn, 1) := by decide +kernel
theorem dL_law_422 : decode cL_law 422 = .ok (.aload_n 1, 1) := by decide +kernel
theorem dL_law_423 : decode cL_law 423 = .ok (.aload_n 0, 1) := by decide +kernel
theorem dL_law_424 : decode cL_law 424 = .ok (.iload 4, 2) := by decide +kernel
theorem dL_law_426 : decode cL_law 426 = .ok (.iconst 1, 1) := by decide +kernel
theorem dL_law_427 : decode cL_law 427 = .ok (.iadd, 1) := by decide +kernel
theorem dL_law_428 : decode cL_law 428 = .ok (.iaload, 1) := by decide +kernel
theorem dL_law_429 : decode cL_law 429 = .ok (.aload_n 0, 1) := by decide +kernel
theorem dL_law_430 : decode cL_law 430 = .ok (.iload 4, 2) := by decide +kernel
theorem dL_law_432 : decode cL_law 432 = .ok (.iconst 2, 1) := by decide +kernel
theorem dL_law_433 : decode cL_law 433 = .ok (.iadd, 1) := by decide +kernel
theorem dL_law_434 : decode cL_law 434 = .ok (.iaload, 1) := by decide +kernel
theorem dL_law_435 : decode cL_law 435 = .ok (.aload_n 0, 1) := by decide +kernel
theorem dL_law_436 : decode cL_law 436 = .ok (.iload 4, 2) := by decide +kernel
theorem dL_law_438 : decode cL_law 438 = .ok (.iconst 3, 1) := by decide +kernel
theorem dL_law_439 : decode cL_law 439 = .ok (.iadd, 1) := by decide +kernel
theorem dL_law_440 : decode cL_law 440 = .ok (.iaload, 1) := by decide +kernel
theorem dL_law_441 : decode cL_law 441 = .ok (.aload_n 0, 1) := by decide +kernel
theorem dL_law_442 : decode cL_law 442 = .ok (.iload 4, 2) := by decide +kernel
theorem dL_law_444 : decode cL_law 444 = .ok (.iconst 4, 1) := by decide +kernel
theorem dL_law_445 : decode cL_law 445 = .ok (.iadd, 1) := by decide +kernel
theorem dL_law_446 : decode cL_law 446 = .ok (.iaload, 1) := by decide +kernel
theorem dL_law_447 : decode cL_law 447 = .ok (.aload_n 0, 1) := by decide +kernel
theorem dL_law_448 : decode cL_law 448 = .ok (.iload 4, 2) := by decide +kernel
theorem dL_law_450 : decode cL_law 450 = .ok (.iconst 5, 1) := by decide +kernel
theorem dL_law_451 : decode cL_law 451 = .ok (.iadd, 1) := by decide +kernel
theorem dL_law_452 : decode cL_law 452 = .ok (.iaload, 1) := by decide +kernel
theorem dL_law_453 : decode cL_law 453 = .ok (.invokevirtual 61, 3) := by decide +kernel
theorem dL_law_456 : decode cL_law 456 = .ok (.aload_n 2, 1) := by decide +kernel
theorem dL_law_457 : decode cL_law 457 = .ok (.aload_n 0, 1) := by decide +kernel
theorem dL_law_458 : decode cL_law 458 = .ok (.iload 4, 2) := by decide +kernel
theorem dL_law_460 : decode cL_law 460 = .ok (.iconst 1, 1) := by decide +kernel
theorem dL_law_461 : decode cL_law 461 = .ok (.iadd, 1) := by decide +kernel
theorem dL_law_462 : decode cL_law 462 = .ok (.iaload, 1) := by decide +kernel
theorem dL_law_463 : decode cL_law 463 = .ok (.aload_n 0, 1) := by decide +kernel
theorem dL_law_464 : decode cL_law 464 = .ok (.iload 4, 2) := by decide +kernel
theorem dL_law_466 : decode cL_law 466 = .ok (.iconst 2, 1) := by decide +kernel
theorem dL_law_467 : decode cL_law 467 = .ok (.iadd, 1) := by decide +kernel
theorem dL_law_468 : decode cL_law 468 = .ok (.iaload, 1) := by decide +kernel
theorem dL_law_469 : decode cL_law 469 = .ok (.aload_n 0, 1) := by decide +kernel
theorem dL_law_470 : decode cL_law 470 = .ok (.iload 4, 2) := by decide +kernel
theorem dL_law_472 : decode cL_law 472 = .ok (.iconst 3, 1) := by decide +kernel
theorem dL_law_473 : decode cL_law 473 = .ok (.iadd, 1) := by decide +kernel
theorem dL_law_474 : decode cL_law 474 = .ok (.iaload, 1) := by decide +kernel
theorem dL_law_475 : decode cL_law 475 = .ok (.aload_n 0, 1) := by decide +kernel
theorem dL_law_476 : decode cL_law 476 = .ok (.iload 4, 2) := by decide +kernel
theorem dL_law_478 : decode cL_law 478 = .ok (.iconst 4, 1) := by decide +kernel
theorem dL_law_479 : decode cL_law 479 = .ok (.iadd, 1) := by decide +kernel
theorem dL_law_480 : decode cL_law 480 = .ok (.iaload, 1) := by decide +kernel
theorem dL_law_481 : decode cL_law 481 = .ok (.aload_n 0, 1) := by decide +kernel
theorem dL_law_482 : decode cL_law 482 = .ok (.iload 4, 2) := by decide +kernel
theorem dL_law_484 : decode cL_law 484 = .ok (.iconst 5, 1) := by decide +kernel
theorem dL_law_485 : decode cL_law 485 = .ok (.iadd, 1) := by decide +kernel
theorem dL_law_486 : decode cL_law 486 = .ok (.iaload, 1) := by decide +kernel
theorem dL_law_487 : decode cL_law 487 = .ok (.invokevirtual 64, 3) := by decide +kernel
theorem dL_law_490 : decode cL_law 490 = .ok (.if_icmp .eq 564, 3) := by decide +kernel
theorem dL_law_493 : decode cL_law 493 = .ok (.iconst 0, 1) := by decide +kernel
theorem dL_law_494 : decode cL_law 494 = .ok (.ireturn, 1) := by decide +kernel
theorem dL_law_495 : decode cL_law 495 = .ok (.aload_n 1, 1) := by decide +kernel
theorem dL_law_496 : decode cL_law 496 = .ok (.aload_n 0, 1) := by decide +kernel
theorem dL_law_497 : decode cL_law 497 = .ok (.iload 4, 2) := by decide +kernel
theorem dL_law_499 : decode cL_law 499 = .ok (.iconst 1, 1) := by decide +kernel
theorem dL_law_500 : decode cL_law 500 = .ok (.iadd, 1) := by decide +kernel
theorem dL_law_501 : decode cL_law 501 = .ok (.iaload, 1) := by decide +kernel
theorem dL_law_502 : decode cL_law 502 = .ok (.invokevirtual 65, 3) := by decide +kernel
theorem dL_law_505 : decode cL_law 505 = .ok (.aload_n 2, 1) := by decide +kernel
theorem dL_law_506 : decode cL_law 506 = .ok (.aload_n 0, 1) := by decide +kernel
theorem dL_law_507 : decode cL_law 507 = .ok (.iload 4, 2) := by decide +kernel
theorem dL_law_509 : decode cL_law 509 = .ok (.iconst 1, 1) := by decide +kernel
theorem dL_law_510 : decode cL_law 510 = .ok (.iadd, 1) := by decide +kernel
theorem dL_law_511 : decode cL_law 511 = .ok (.iaload, 1) := by decide +kernel
theorem dL_law_512 : decode cL_law 512 = .ok (.invokevirtual 68, 3) := by decide +kernel
theorem dL_law_515 : decode cL_law 515 = .ok (.if_icmp .eq 539, 3) := by decide +kernel
theorem dL_law_518 : decode cL_law 518 = .ok (.iconst 0, 1) := by decide +kernel
theorem dL_law_519 : decode cL_law 519 = .ok (.ireturn, 1) := by decide +kernel
theorem dL_law_520 : decode cL_law 520 = .ok (.aload_n 1, 1) := by decide +kernel
theorem dL_law_521 : decode cL_law 521 = .ok (.aload_n 0, 1) := by decide +kernel
theorem dL_law_522 : decode cL_law 522 = .ok (.iload 4, 2) := by decide +kernel
theorem dL_law_524 : decode cL_law 524 = .ok (.iconst 1, 1) := by decide +kernel
theorem dL_law_525 : decode cL_law 525 = .ok (.iadd, 1) := by decide +kernel
theorem dL_law_526 : decode cL_law 526 = .ok (.iaload, 1) := by decide +kernel
theorem dL_law_527 : decode cL_law 527 = .ok (.aload_n 3, 1) := by decide +kernel
theorem dL_law_528 : decode cL_law 528 = .ok (.invokestatic 69, 3) := by decide +kernel
theorem dL_law_531 : decode cL_law 531 = .ok (.istore 5, 2) := by decide +kernel
theorem dL_law_533 : decode cL_law 533 = .ok (.aload_n 2, 1) := by decide +kernel
theorem dL_law_534 : decode cL_law 534 = .ok (.aload_n 0, 1) := by decide +kernel
theorem dL_law_535 : decode cL_law 535 = .ok (.iload 4, 2) := by decide +kernel
theorem dL_law_537 : decode cL_law 537 = .ok (.iconst 1, 1) := by decide +kernel
theorem dL_law_538 : decode cL_law 538 = .ok (.iadd, 1) := by decide +kernel
theorem dL_law_539 : decode cL_law 539 = .ok (.iaload, 1) := by decide +kernel
theorem dL_law_540 : decode cL_law 540 = .ok (.invokevirtual 72, 3) := by decide +kernel
theorem dL_law_543 : decode cL_law 543 = .ok (.istore 6, 2) := by decide +kernel
theorem dL_law_545 : decode cL_law 545 = .ok (.aload_n 2, 1) := by decide +kernel
theorem dL_law_546 : decode cL_law 546 = .ok (.invokevirtual 54, 3) := by decide +kernel
theorem dL_law_549 : decode cL_law 549 = .ok (.iload 5, 2) := by decide +kernel
theorem dL_law_551 : decode cL_law 551 = .ok (.if_icmp .eq 5, 3) := by decide +kernel
theorem dL_law_554 : decode cL_law 554 = .ok (.iconst 0, 1) := by decide +kernel
theorem dL_law_555 : decode cL_law 555 = .ok (.ireturn, 1) := by decide +kernel
theorem dL_law_556 : decode cL_law 556 = .ok (.iload 5, 2) := by decide +kernel
theorem dL_law_558 : decode cL_law 558 = .ok (.ifCond .ne 15, 3) := by decide +kernel
theorem dL_law_561 : decode cL_law 561 = .ok (.aload_n 3, 1) := by decide +kernel
theorem dL_law_562 : decode cL_law 562 = .ok (.iconst 0, 1) := by decide +kernel
theorem dL_law_563 : decode cL_law 563 = .ok (.laload, 1) := by decide +kernel
theorem dL_law_564 : decode cL_law 564 = .ok (.iload 6, 2) := by decide +kernel
theorem dL_law_566 : decode cL_law 566 = .ok (.i2l, 1) := by decide +kernel
theorem dL_law_567 : decode cL_law 567 = .ok (.lcmp, 1) := by decide +kernel
theorem dL_law_568 : decode cL_law 568 = .ok (.ifCond .eq 5, 3) := by decide +kernel
theorem dL_law_571 : decode cL_law 571 = .ok (.iconst 0, 1) := by decide +kernel
theorem dL_law_572 : decode cL_law 572 = .ok (.ireturn, 1) := by decide +kernel
theorem dL_law_573 : decode cL_law 573 = .ok (.goto 481, 3) := by decide +kernel
theorem dL_law_576 : decode cL_law 576 = .ok (.aload_n 1, 1) := by decide +kernel
theorem dL_law_577 : decode cL_law 577 = .ok (.aload_n 0, 1) := by decide +kernel
theorem dL_law_578 : decode cL_law 578 = .ok (.iload 4, 2) := by decide +kernel
theorem dL_law_580 : decode cL_law 580 = .ok (.iconst 1, 1) := by decide +kernel
theorem dL_law_581 : decode cL_law 581 = .ok (.iadd, 1) := by decide +kernel
theorem dL_law_582 : decode cL_law 582 = .ok (.iaload, 1) := by decide +kernel
theorem dL_law_583 : decode cL_law 583 = .ok (.aload_n 0, 1) := by decide +kernel
theorem dL_law_584 : decode cL_law 584 = .ok (.iload 4, 2) := by decide +kernel
theorem dL_law_586 : decode cL_law 586 = .ok (.iconst 2, 1) := by decide +kernel
theorem dL_law_587 : decode cL_law 587 = .ok (.iadd, 1) := by decide +kernel
theorem dL_law_588 : decode cL_law 588 = .ok (.iaload, 1) := by decide +kernel
theorem dL_law_589 : decode cL_law 589 = .ok (.aload_n 3, 1) := by decide +kernel
theorem dL_law_590 : decode cL_law 590 = .ok (.invokestatic 73, 3) := by decide +kernel
theorem dL_law_593 : decode cL_law 593 = .ok (.istore 5, 2) := by decide +kernel
theorem dL_law_595 : decode cL_law 595 = .ok (.aload_n 2, 1) := by decide +kernel
theorem dL_law_596 : decode cL_law 596 = .ok (.aload_n 0, 1) := by decide +kernel
theorem dL_law_597 : decode cL_law 597 = .ok (.iload 4, 2) := by decide +kernel
theorem dL_law_599 : decode cL_law 599 = .ok (.iconst 1, 1) := by decide +kernel
theorem dL_law_600 : decode cL_law 600 = .ok (.iadd, 1) := by decide +kernel
theorem dL_law_601 : decode cL_law 601 = .ok (.iaload, 1) := by decide +kernel
theorem dL_law_602 : decode cL_law 602 = .ok (.aload_n 0, 1) := by decide +kernel
theorem dL_law_603 : decode cL_law 603 = .ok (.iload 4, 2) := by decide +kernel
theorem dL_law_605 : decode cL_law 605 = .ok (.iconst 2, 1) := by decide +kernel
theorem dL_law_606 : decode cL_law 606 = .ok (.iadd, 1) := by decide +kernel
theorem dL_law_607 : decode cL_law 607 = .ok (.iaload, 1) := by decide +kernel
theorem dL_law_608 : decode cL_law 608 = .ok (.invokevirtual 75, 3) := by decide +kernel
theorem dL_law_611 : decode cL_law 611 = .ok (.istore 6, 2) := by decide +kernel
theorem dL_law_613 : decode cL_law 613 = .ok (.aload_n 2, 1) := by decide +kernel
theorem dL_law_614 : decode cL_law 614 = .ok (.invokevirtual 54, 3) := by decide +kernel
theorem dL_law_617 : decode cL_law 617 = .ok (.iload 5, 2) := by decide +kernel
theorem dL_law_619 : decode cL_law 619 = .ok (.if_icmp .eq 5, 3) := by decide +kernel
theorem dL_law_622 : decode cL_law 622 = .ok (.iconst 0, 1) := by decide +kernel
theorem dL_law_623 : decode cL_law 623 = .ok (.ireturn, 1) := by decide +kernel
theorem dL_law_624 : decode cL_law 624 = .ok (.iload 5, 2) := by decide +kernel
theorem dL_law_626 : decode cL_law 626 = .ok (.ifCond .ne 15, 3) := by decide +kernel
theorem dL_law_629 : decode cL_law 629 = .ok (.aload_n 3, 1) := by decide +kernel
theorem dL_law_630 : decode cL_law 630 = .ok (.iconst 0, 1) := by decide +kernel
theorem dL_law_631 : decode cL_law 631 = .ok (.laload, 1) := by decide +kernel
theorem dL_law_632 : decode cL_law 632 = .ok (.iload 6, 2) := by decide +kernel
theorem dL_law_634 : decode cL_law 634 = .ok (.i2l, 1) := by decide +kernel
theorem dL_law_635 : decode cL_law 635 = .ok (.lcmp, 1) := by decide +kernel
theorem dL_law_636 : decode cL_law 636 = .ok (.ifCond .eq 5, 3) := by decide +kernel
theorem dL_law_639 : decode cL_law 639 = .ok (.iconst 0, 1) := by decide +kernel
theorem dL_law_640 : decode cL_law 640 = .ok (.ireturn, 1) := by decide +kernel
theorem dL_law_641 : decode cL_law 641 = .ok (.goto 413, 3) := by decide +kernel
theorem dL_law_644 : decode cL_law 644 = .ok (.aload_n 1, 1) := by decide +kernel
theorem dL_law_645 : decode cL_law 645 = .ok (.aload_n 0, 1) := by decide +kernel
theorem dL_law_646 : decode cL_law 646 = .ok (.iload 4, 2) := by decide +kernel
theorem dL_law_648 : decode cL_law 648 = .ok (.iconst 1, 1) := by decide +kernel
theorem dL_law_649 : decode cL_law 649 = .ok (.iadd, 1) := by decide +kernel
theorem dL_law_650 : decode cL_law 650 = .ok (.iaload, 1) := by decide +kernel
theorem dL_law_651 : decode cL_law 651 = .ok (.invokevirtual 76, 3) := by decide +kernel
theorem dL_law_654 : decode cL_law 654 = .ok (.aload_n 2, 1) := by decide +kernel
theorem dL_law_655 : decode cL_law 655 = .ok (.aload_n 0, 1) := by decide +kernel
theorem dL_law_656 : decode cL_law 656 = .ok (.iload 4, 2) := by decide +kernel
theorem dL_law_658 : decode cL_law 658 = .ok (.iconst 1, 1) := by decide +kernel
theorem dL_law_659 : decode cL_law 659 = .ok (.iadd, 1) := by decide +kernel
theorem dL_law_660 : decode cL_law 660 = .ok (.iaload, 1) := by decide +kernel
theorem dL_law_661 : decode cL_law 661 = .ok (.invokevirtual 79, 3) := by decide +kernel
theorem dL_law_664 : decode cL_law 664 = .ok (.if_icmp .eq 390, 3) := by decide +kernel
theorem dL_law_667 : decode cL_law 667 = .ok (.iconst 0, 1) := by decide +kernel
theorem dL_law_668 : decode cL_law 668 = .ok (.ireturn, 1) := by decide +kernel
theorem dL_law_669 : decode cL_law 669 = .ok (.aload_n 1, 1) := by decide +kernel
theorem dL_law_670 : decode cL_law 670 = .ok (.aload_n 0, 1) := by decide +kernel
theorem dL_law_671 : decode cL_law 671 = .ok (.iload 4, 2) := by decide +kernel
theorem dL_law_673 : decode cL_law 673 = .ok (.iconst 1, 1) := by decide +kernel
theorem dL_law_674 : decode cL_law 674 = .ok (.iadd, 1) := by decide +kernel
theorem dL_law_675 : decode cL_law 675 = .ok (.iaload, 1) := by decide +kernel
theorem dL_law_676 : decode cL_law 676 = .ok (.invokevirtual 80, 3) := by decide +kernel
theorem dL_law_679 : decode cL_law 679 = .ok (.aload_n 2, 1) := by decide +kernel
theorem dL_law_680 : decode cL_law 680 = .ok (.aload_n 0, 1) := by decide +kernel
theorem dL_law_681 : decode cL_law 681 = .ok (.iload 4, 2) := by decide +kernel
theorem dL_law_683 : decode cL_law 683 = .ok (.iconst 1, 1) := by decide +kernel
theorem dL_law_684 : decode cL_law 684 = .ok (.iadd, 1) := by decide +kernel
theorem dL_law_685 : decode cL_law 685 = .ok (.iaload, 1) := by decide +kernel
theorem dL_law_686 : decode cL_law 686 = .ok (.invokevirtual 83, 3) := by decide +kernel
theorem dL_law_689 : decode cL_law 689 = .ok (.if_icmp .eq 365, 3) := by decide +kernel
theorem dL_law_692 : decode cL_law 692 = .ok (.iconst 0, 1) := by decide +kernel
theorem dL_law_693 : decode cL_law 693 = .ok (.ireturn, 1) := by decide +kernel
theorem dL_law_694 : decode cL_law 694 = .ok (.aload_n 1, 1) := by decide +kernel
theorem dL_law_695 : decode cL_law 695 = .ok (.aload_n 0, 1) := by decide +kernel
theorem dL_law_696 : decode cL_law 696 = .ok (.iload 4, 2) := by decide +kernel
theorem dL_law_698 : decode cL_law 698 = .ok (.iconst 1, 1) := by decide +kernel
theorem dL_law_699 : decode cL_law 699 = .ok (.iadd, 1) := by decide +kernel
theorem dL_law_700 : decode cL_law 700 = .ok (.iaload, 1) := by decide +kernel
theorem dL_law_701 : decode cL_law 701 = .ok (.aload_n 0, 1) := by decide +kernel
theorem dL_law_702 : decode cL_law 702 = .ok (.iload 4, 2) := by decide +kernel
theorem dL_law_704 : decode cL_law 704 = .ok (.iconst 2, 1) := by decide +kernel
theorem dL_law_705 : decode cL_law 705 = .ok (.iadd, 1) := by decide +kernel
theorem dL_law_706 : decode cL_law 706 = .ok (.iaload, 1) := by decide +kernel
theorem dL_law_707 : decode cL_law 707 = .ok (.aload_n 0, 1) := by decide +kernel
theorem dL_law_708 : decode cL_law 708 = .ok (.iload 4, 2) := by decide +kernel
theorem dL_law_710 : decode cL_law 710 = .ok (.iconst 3, 1) := by decide +kernel
theorem dL_law_711 : decode cL_law 711 = .ok (.iadd, 1) := by decide +kernel
theorem dL_law_712 : decode cL_law 712 = .ok (.iaload, 1) := by decide +kernel
theorem dL_law_713 : decode cL_law 713 = .ok (.aload_n 0, 1) := by decide +kernel
theorem dL_law_714 : decode cL_law 714 = .ok (.iload 4, 2) := by decide +kernel
theorem dL_law_716 : decode cL_law 716 = .ok (.iconst 4, 1) := by decide +kernel
theorem dL_law_717 : decode cL_law 717 = .ok (.iadd, 1) := by decide +kernel
theorem dL_law_718 : decode cL_law 718 = .ok (.iaload, 1) := by decide +kernel
theorem dL_law_719 : decode cL_law 719 = .ok (.aload_n 0, 1) := by decide +kernel
theorem dL_law_720 : decode cL_law 720 = .ok (.iload 4, 2) := by decide +kernel
theorem dL_law_722 : decode cL_law 722 = .ok (.iconst 5, 1) := by decide +kernel
theorem dL_law_723 : decode cL_law 723 = .ok (.iadd, 1) := by decide +kernel
theorem dL_law_724 : decode cL_law 724 = .ok (.iaload, 1) := by decide +kernel
theorem dL_law_725 : decode cL_law 725 = .ok (.invokevirtual 84, 3) := by decide +kernel
theorem dL_law_728 : decode cL_law 728 = .ok (.aload_n 2, 1) := by decide +kernel
theorem dL_law_729 : decode cL_law 729 = .ok (.aload_n 0, 1) := by decide +kernel
theorem dL_law_730 : decode cL_law 730 = .ok (.iload 4, 2) := by decide +kernel
theorem dL_law_732 : decode cL_law 732 = .ok (.iconst 1, 1) := by decide +kernel
theorem dL_law_733 : decode cL_law 733 = .ok (.iadd, 1) := by decide +kernel
theorem dL_law_734 : decode cL_law 734 = .ok (.iaload, 1) := by decide +kernel
theorem dL_law_735 : decode cL_law 735 = .ok (.aload_n 0, 1) := by decide +kernel
theorem dL_law_736 : decode cL_law 736 = .ok (.iload 4, 2) := by decide +kernel
theorem dL_law_738 : decode cL_law 738 = .ok (.iconst 2, 1) := by decide +kernel
theorem dL_law_739 : decode cL_law 739 = .ok (.iadd, 1) := by decide +kernel
theorem dL_law_740 : decode cL_law 740 = .ok (.iaload, 1) := by decide +kernel
theorem dL_law_741 : decode cL_law 741 = .ok (.aload_n 0, 1) := by decide +kernel
theorem dL_law_742 : decode cL_law 742 = .ok (.iload 4, 2) := by decide +kernel
theorem dL_law_744 : decode cL_law 744 = .ok (.iconst 3, 1) := by decide +kernel
theorem dL_law_745 : decode cL_law 745 = .ok (.iadd, 1) := by decide +kernel
theorem dL_law_746 : decode cL_law 746 = .ok (.iaload, 1) := by decide +kernel
theorem dL_law_747 : decode cL_law 747 = .ok (.aload_n 0, 1) := by decide +kernel
theorem dL_law_748 : decode cL_law 748 = .ok (.iload 4, 2) := by decide +kernel
theorem dL_law_750 : decode cL_law 750 = .ok (.iconst 4, 1) := by decide +kernel
theorem dL_law_751 : decode cL_law 751 = .ok (.iadd, 1) := by decide +kernel
theorem dL_law_752 : decode cL_law 752 = .ok (.iaload, 1) := by decide +kernel
theorem dL_law_753 : decode cL_law 753 = .ok (.aload_n 0, 1) := by decide +kernel
theorem dL_law_754 : decode cL_law 754 = .ok (.iload 4, 2) := by decide +kernel
theorem dL_law_756 : decode cL_law 756 = .ok (.iconst 5, 1) := by decide +kernel
theorem dL_law_757 : decode cL_law 757 = .ok (.iadd, 1) := by decide +kernel
theorem dL_law_758 : decode cL_law 758 = .ok (.iaload, 1) := by decide +kernel
theorem dL_law_759 : decode cL_law 759 = .ok (.invokevirtual 87, 3) := by decide +kernel
theorem dL_law_762 : decode cL_law 762 = .ok (.if_icmp .eq 292, 3) := by decide +kernel
theorem dL_law_765 : decode cL_law 765 = .ok (.iconst 0, 1) := by decide +kernel
theorem dL_law_766 : decode cL_law 766 = .ok (.ireturn, 1) := by decide +kernel
theorem dL_law_767 : decode cL_law 767 = .ok (.aload_n 1, 1) := by decide +kernel
theorem dL_law_768 : decode cL_law 768 = .ok (.aload_n 0, 1) := by decide +kernel
theorem dL_law_769 : decode cL_law 769 = .ok (.iload 4, 2) := by decide +kernel
theorem dL_law_771 : decode cL_law 771 = .ok (.iconst 1, 1) := by decide +kernel
theorem dL_law_772 : decode cL_law 772 = .ok (.iadd, 1) := by decide +kernel
theorem dL_law_773 : decode cL_law 773 = .ok (.iaload, 1) := by decide +kernel
theorem dL_law_774 : decode cL_law 774 = .ok (.aload_n 0, 1) := by decide +kernel
theorem dL_law_775 : decode cL_law 775 = .ok (.iload 4, 2) := by decide +kernel
theorem dL_law_777 : decode cL_law 777 = .ok (.iconst 2, 1) := by decide +kernel
theorem dL_law_778 : decode cL_law 778 = .ok (.iadd, 1) := by decide +kernel
theorem dL_law_779 : decode cL_law 779 = .ok (.iaload, 1) := by decide +kernel
theorem dL_law_780 : decode cL_law 780 = .ok (.aload_n 0, 1) := by decide +kernel
theorem dL_law_781 : decode cL_law 781 = .ok (.iload 4, 2) := by decide +kernel
theorem dL_law_783 : decode cL_law 783 = .ok (.iconst 3, 1) := by decide +kernel
theorem dL_law_784 : decode cL_law 784 = .ok (.iadd, 1) := by decide +kernel
theorem dL_law_785 : decode cL_law 785 = .ok (.iaload, 1) := by decide +kernel
theorem dL_law_786 : decode cL_law 786 = .ok (.aload_n 0, 1) := by decide +kernel
theorem dL_law_787 : decode cL_law 787 = .ok (.iload 4, 2) := by decide +kernel
theorem dL_law_789 : decode cL_law 789 = .ok (.iconst 4, 1) := by decide +kernel
theorem dL_law_790 : decode cL_law 790 = .ok (.iadd, 1) := by decide +kernel
theorem dL_law_791 : decode cL_law 791 = .ok (.iaload, 1) := by decide +kernel
theorem dL_law_792 : decode cL_law 792 = .ok (.invokevirtual 88, 3) := by decide +kernel
theorem dL_law_795 : decode cL_law 795 = .ok (.aload_n 2, 1) := by decide +kernel
theorem dL_law_796 : decode cL_law 796 = .ok (.aload_n 0, 1) := by decide +kernel
theorem dL_law_797 : decode cL_law 797 = .ok (.iload 4, 2) := by decide +kernel
theorem dL_law_799 : decode cL_law 799 = .ok (.iconst 1, 1) := by decide +kernel
theorem dL_law_800 : decode cL_law 800 = .ok (.iadd, 1) := by decide +kernel
theorem dL_law_801 : decode cL_law 801 = .ok (.iaload, 1) := by decide +kernel
theorem dL_law_802 : decode cL_law 802 = .ok (.aload_n 0, 1) := by decide +kernel
theorem dL_law_803 : decode cL_law 803 = .ok (.iload 4, 2) := by decide +kernel
theorem dL_law_805 : decode cL_law 805 = .ok (.iconst 2, 1) := by decide +kernel
theorem dL_law_806 : decode cL_law 806 = .ok (.iadd, 1) := by decide +kernel
theorem dL_law_807 : decode cL_law 807 = .ok (.iaload, 1) := by decide +kernel
theorem dL_law_808 : decode cL_law 808 = .ok (.aload_n 0, 1) := by decide +kernel
theorem dL_law_809 : decode cL_law 809 = .ok (.iload 4, 2) := by decide +kernel
theorem dL_law_811 : decode cL_law 811 = .ok (.iconst 3, 1) := by decide +kernel
theorem dL_law_812 : decode cL_law 812 = .ok (.iadd, 1) := by decide +kernel
theorem dL_law_813 : decode cL_law 813 = .ok (.iaload, 1) := by decide +kernel
theorem dL_law_814 : decode cL_law 814 = .ok (.aload_n 0, 1) := by decide +kernel
theorem dL_law_815 : decode cL_law 815 = .ok (.iload 4, 2) := by decide +kernel
theorem dL_law_817 : decode cL_law 817 = .ok (.iconst 4, 1) := by decide +kernel
theorem dL_law_818 : decode cL_law 818 = .ok (.iadd, 1) := by decide +kernel
theorem dL_law_819 : decode cL_law 819 = .ok (.iaload, 1) := by decide +kernel
theorem dL_law_820 : decode cL_law 820 = .ok (.invokevirtual 92, 3) := by decide +kernel
theorem dL_law_823 : decode cL_law 823 = .ok (.if_icmp .eq 231, 3) := by decide +kernel
theorem dL_law_826 : decode cL_law 826 = .ok (.iconst 0, 1) := by decide +kernel
theorem dL_law_827 : decode cL_law 827 = .ok (.ireturn, 1) := by decide +kernel
theorem dL_law_828 : decode cL_law 828 = .ok (.aload_n 1, 1) := by decide +kernel
theorem dL_law_829 : decode cL_law 829 = .ok (.invokevirtual 93, 3) := by decide +kernel
theorem dL_law_832 : decode cL_law 832 = .ok (.aload_n 2, 1) := by decide +kernel
theorem dL_law_833 : decode cL_law 833 = .ok (.invokevirtual 96, 3) := by decide +kernel
theorem dL_law_836 : decode cL_law 836 = .ok (.if_icmp .eq 218, 3) := by decide +kernel
theorem dL_law_839 : decode cL_law 839 = .ok (.iconst 0, 1) := by decide +kernel
theorem dL_law_840 : decode cL_law 840 = .ok (.ireturn, 1) := by decide +kernel
theorem dL_law_841 : decode cL_law 841 = .ok (.aload_n 1, 1) := by decide +kernel
theorem dL_law_842 : decode cL_law 842 = .ok (.aload_n 0, 1) := by decide +kernel
theorem dL_law_843 : decode cL_law 843 = .ok (.iload 4, 2) := by decide +kernel
theorem dL_law_845 : decode cL_law 845 = .ok (.iconst 1, 1) := by decide +kernel
theorem dL_law_846 : decode cL_law 846 = .ok (.iadd, 1) := by decide +kernel
theorem dL_law_847 : decode cL_law 847 = .ok (.iaload, 1) := by decide +kernel
theorem dL_law_848 : decode cL_law 848 = .ok (.invokevirtual 97, 3) := by decide +kernel
theorem dL_law_851 : decode cL_law 851 = .ok (.aload_n 2, 1) := by decide +kernel
theorem dL_law_852 : decode cL_law 852 = .ok (.aload_n 0, 1) := by decide +kernel
theorem dL_law_853 : decode cL_law 853 = .ok (.iload 4, 2) := by decide +kernel
theorem dL_law_855 : decode cL_law 855 = .ok (.iconst 1, 1) := by decide +kernel
theorem dL_law_856 : decode cL_law 856 = .ok (.iadd, 1) := by decide +kernel
theorem dL_law_857 : decode cL_law 857 = .ok (.iaload, 1) := by decide +kernel
theorem dL_law_858 : decode cL_law 858 = .ok (.invokevirtual 100, 3) := by decide +kernel
theorem dL_law_861 : decode cL_law 861 = .ok (.if_icmp .eq 193, 3) := by decide +kernel
theorem dL_law_864 : decode cL_law 864 = .ok (.iconst 0, 1) := by decide +kernel
theorem dL_law_865 : decode cL_law 865 = .ok (.ireturn, 1) := by decide +kernel
theorem dL_law_866 : decode cL_law 866 = .ok (.aload_n 1, 1) := by decide +kernel
theorem dL_law_867 : decode cL_law 867 = .ok (.aload_n 0, 1) := by decide +kernel
theorem dL_law_868 : decode cL_law 868 = .ok (.iload 4, 2) := by decide +kernel
theorem dL_law_870 : decode cL_law 870 = .ok (.iconst 1, 1) := by decide +kernel
theorem dL_law_871 : decode cL_law 871 = .ok (.iadd, 1) := by decide +kernel
theorem dL_law_872 : decode cL_law 872 = .ok (.iaload, 1) := by decide +kernel
theorem dL_law_873 : decode cL_law 873 = .ok (.aload_n 0, 1) := by decide +kernel
theorem dL_law_874 : decode cL_law 874 = .ok (.iload 4, 2) := by decide +kernel
theorem dL_law_876 : decode cL_law 876 = .ok (.iconst 2, 1) := by decide +kernel
theorem dL_law_877 : decode cL_law 877 = .ok (.iadd, 1) := by decide +kernel
theorem dL_law_878 : decode cL_law 878 = .ok (.iaload, 1) := by decide +kernel
theorem dL_law_879 : decode cL_law 879 = .ok (.aload_n 0, 1) := by decide +kernel
theorem dL_law_880 : decode cL_law 880 = .ok (.iload 4, 2) := by decide +kernel
theorem dL_law_882 : decode cL_law 882 = .ok (.iconst 3, 1) := by decide +kernel
theorem dL_law_883 : decode cL_law 883 = .ok (.iadd, 1) := by decide +kernel
theorem dL_law_884 : decode cL_law 884 = .ok (.iaload, 1) := by decide +kernel
theorem dL_law_885 : decode cL_law 885 = .ok (.aload_n 0, 1) := by decide +kernel
theorem dL_law_886 : decode cL_law 886 = .ok (.iload 4, 2) := by decide +kernel
theorem dL_law_888 : decode cL_law 888 = .ok (.iconst 4, 1) := by decide +kernel
theorem dL_law_889 : decode cL_law 889 = .ok (.iadd, 1) := by decide +kernel
theorem dL_law_890 : decode cL_law 890 = .ok (.iaload, 1) := by decide +kernel
theorem dL_law_891 : decode cL_law 891 = .ok (.invokevirtual 101, 3) := by decide +kernel
theorem dL_law_894 : decode cL_law 894 = .ok (.aload_n 2, 1) := by decide +kernel
theorem dL_law_895 : decode cL_law 895 = .ok (.aload_n 0, 1) := by decide +kernel
theorem dL_law_896 : decode cL_law 896 = .ok (.iload 4, 2) := by decide +kernel
theorem dL_law_898 : decode cL_law 898 = .ok (.iconst 1, 1) := by decide +kernel
theorem dL_law_899 : decode cL_law 899 = .ok (.iadd, 1) := by decide +kernel
theorem dL_law_900 : decode cL_law 900 = .ok (.iaload, 1) := by decide +kernel
theorem dL_law_901 : decode cL_law 901 = .ok (.aload_n 0, 1) := by decide +kernel
theorem dL_law_902 : decode cL_law 902 = .ok (.iload 4, 2) := by decide +kernel
theorem dL_law_904 : decode cL_law 904 = .ok (.iconst 2, 1) := by decide +kernel
theorem dL_law_905 : decode cL_law 905 = .ok (.iadd, 1) := by decide +kernel
theorem dL_law_906 : decode cL_law 906 = .ok (.iaload, 1) := by decide +kernel
theorem dL_law_907 : decode cL_law 907 = .ok (.aload_n 0, 1) := by decide +kernel
theorem dL_law_908 : decode cL_law 908 = .ok (.iload 4, 2) := by decide +kernel
theorem dL_law_910 : decode cL_law 910 = .ok (.iconst 3, 1) := by decide +kernel
theorem dL_law_911 : decode cL_law 911 = .ok (.iadd, 1) := by decide +kernel
theorem dL_law_912 : decode cL_law 912 = .ok (.iaload, 1) := by decide +kernel
theorem dL_law_913 : decode cL_law 913 = .ok (.aload_n 0, 1) := by decide +kernel
theorem dL_law_914 : decode cL_law 914 = .ok (.iload 4, 2) := by decide +kernel
theorem dL_law_916 : decode cL_law 916 = .ok (.iconst 4, 1) := by decide +kernel
theorem dL_law_917 : decode cL_law 917 = .ok (.iadd, 1) := by decide +kernel
theorem dL_law_918 : decode cL_law 918 = .ok (.iaload, 1) := by decide +kernel
theorem dL_law_919 : decode cL_law 919 = .ok (.invokevirtual 104, 3) := by decide +kernel
theorem dL_law_922 : decode cL_law 922 = .ok (.if_icmp .eq 132, 3) := by decide +kernel
theorem dL_law_925 : decode cL_law 925 = .ok (.iconst 0, 1) := by decide +kernel
theorem dL_law_926 : decode cL_law 926 = .ok (.ireturn, 1) := by decide +kernel
theorem dL_law_927 : decode cL_law 927 = .ok (.aload_n 1, 1) := by decide +kernel
theorem dL_law_928 : decode cL_law 928 = .ok (.invokevirtual 105, 3) := by decide +kernel
theorem dL_law_931 : decode cL_law 931 = .ok (.aload_n 2, 1) := by decide +kernel
theorem dL_law_932 : decode cL_law 932 = .ok (.invokevirtual 108, 3) := by decide +kernel
theorem dL_law_935 : decode cL_law 935 = .ok (.if_icmp .eq 119, 3) := by decide +kernel
theorem dL_law_938 : decode cL_law 938 = .ok (.iconst 0, 1) := by decide +kernel
theorem dL_law_939 : decode cL_law 939 = .ok (.ireturn, 1) := by decide +kernel
theorem dL_law_940 : decode cL_law 940 = .ok (.aload_n 1, 1) := by decide +kernel
theorem dL_law_941 : decode cL_law 941 = .ok (.invokevirtual 109, 3) := by decide +kernel
theorem dL_law_944 : decode cL_law 944 = .ok (.aload_n 2, 1) := by decide +kernel
theorem dL_law_945 : decode cL_law 945 = .ok (.invokevirtual 112, 3) := by decide +kernel
theorem dL_law_948 : decode cL_law 948 = .ok (.if_icmp .eq 106, 3) := by decide +kernel
theorem dL_law_951 : decode cL_law 951 = .ok (.iconst 0, 1) := by decide +kernel
theorem dL_law_952 : decode cL_law 952 = .ok (.ireturn, 1) := by decide +kernel
theorem dL_law_953 : decode cL_law 953 = .ok (.aload_n 1, 1) := by decide +kernel
theorem dL_law_954 : decode cL_law 954 = .ok (.aload_n 0, 1) := by decide +kernel
theorem dL_law_955 : decode cL_law 955 = .ok (.iload 4, 2) := by decide +kernel
theorem dL_law_957 : decode cL_law 957 = .ok (.iconst 1, 1) := by decide +kernel
theorem dL_law_958 : decode cL_law 958 = .ok (.iadd, 1) := by decide +kernel
theorem dL_law_959 : decode cL_law 959 = .ok (.iaload, 1) := by decide +kernel
theorem dL_law_960 : decode cL_law 960 = .ok (.invokevirtual 113, 3) := by decide +kernel
theorem dL_law_963 : decode cL_law 963 = .ok (.aload_n 2, 1) := by decide +kernel
theorem dL_law_964 : decode cL_law 964 = .ok (.aload_n 0, 1) := by decide +kernel
theorem dL_law_965 : decode cL_law 965 = .ok (.iload 4, 2) := by decide +kernel
theorem dL_law_967 : decode cL_law 967 = .ok (.iconst 1, 1) := by decide +kernel
theorem dL_law_968 : decode cL_law 968 = .ok (.iadd, 1) := by decide +kernel
theorem dL_law_969 : decode cL_law 969 = .ok (.iaload, 1) := by decide +kernel
theorem dL_law_970 : decode cL_law 970 = .ok (.invokevirtual 116, 3) := by decide +kernel
theorem dL_law_973 : decode cL_law 973 = .ok (.if_icmp .eq 81, 3) := by decide +kernel
theorem dL_law_976 : decode cL_law 976 = .ok (.iconst 0, 1) := by decide +kernel
theorem dL_law_977 : decode cL_law 977 = .ok (.ireturn, 1) := by decide +kernel
theorem dL_law_978 : decode cL_law 978 = .ok (.aload_n 1, 1) := by decide +kernel
theorem dL_law_979 : decode cL_law 979 = .ok (.aload_n 0, 1) := by decide +kernel
theorem dL_law_980 : decode cL_law 980 = .ok (.iload 4, 2) := by decide +kernel
theorem dL_law_982 : decode cL_law 982 = .ok (.iconst 1, 1) := by decide +kernel
theorem dL_law_983 : decode cL_law 983 = .ok (.iadd, 1) := by decide +kernel
theorem dL_law_984 : decode cL_law 984 = .ok (.iaload, 1) := by decide +kernel
theorem dL_law_985 : decode cL_law 985 = .ok (.invokevirtual 117, 3) := by decide +kernel
theorem dL_law_988 : decode cL_law 988 = .ok (.aload_n 2, 1) := by decide +kernel
theorem dL_law_989 : decode cL_law 989 = .ok (.aload_n 0, 1) := by decide +kernel
theorem dL_law_990 : decode cL_law 990 = .ok (.iload 4, 2) := by decide +kernel
theorem dL_law_992 : decode cL_law 992 = .ok (.iconst 1, 1) := by decide +kernel
theorem dL_law_993 : decode cL_law 993 = .ok (.iadd, 1) := by decide +kernel
theorem dL_law_994 : decode cL_law 994 = .ok (.iaload, 1) := by decide +kernel
theorem dL_law_995 : decode cL_law 995 = .ok (.invokevirtual 120, 3) := by decide +kernel
theorem dL_law_998 : decode cL_law 998 = .ok (.if_icmp .eq 56, 3) := by decide +kernel
theorem dL_law_1001 : decode cL_law 1001 = .ok (.iconst 0, 1) := by decide +kernel
theorem dL_law_1002 : decode cL_law 1002 = .ok (.ireturn, 1) := by decide +kernel
theorem dL_law_1003 : decode cL_law 1003 = .ok (.aload_n 1, 1) := by decide +kernel
theorem dL_law_1004 : decode cL_law 1004 = .ok (.invokevirtual 121, 3) := by decide +kernel
theorem dL_law_1007 : decode cL_law 1007 = .ok (.aload_n 2, 1) := by decide +kernel
theorem dL_law_1008 : decode cL_law 1008 = .ok (.invokevirtual 124, 3) := by decide +kernel
theorem dL_law_1011 : decode cL_law 1011 = .ok (.if_icmp .eq 43, 3) := by decide +kernel
theorem dL_law_1014 : decode cL_law 1014 = .ok (.iconst 0, 1) := by decide +kernel
theorem dL_law_1015 : decode cL_law 1015 = .ok (.ireturn, 1) := by decide +kernel
theorem dL_law_1016 : decode cL_law 1016 = .ok (.aload_n 1, 1) := by decide +kernel
theorem dL_law_1017 : decode cL_law 1017 = .ok (.aload_n 0, 1) := by decide +kernel
theorem dL_law_1018 : decode cL_law 1018 = .ok (.iload 4, 2) := by decide +kernel
theorem dL_law_1020 : decode cL_law 1020 = .ok (.iconst 1, 1) := by decide +kernel
theorem dL_law_1021 : decode cL_law 1021 = .ok (.iadd, 1) := by decide +kernel
theorem dL_law_1022 : decode cL_law 1022 = .ok (.iaload, 1) := by decide +kernel
theorem dL_law_1023 : decode cL_law 1023 = .ok (.invokevirtual 125, 3) := by decide +kernel
theorem dL_law_1026 : decode cL_law 1026 = .ok (.aload_n 2, 1) := by decide +kernel
theorem dL_law_1027 : decode cL_law 1027 = .ok (.aload_n 0, 1) := by decide +kernel
theorem dL_law_1028 : decode cL_law 1028 = .ok (.iload 4, 2) := by decide +kernel
theorem dL_law_1030 : decode cL_law 1030 = .ok (.iconst 1, 1) := by decide +kernel
theorem dL_law_1031 : decode cL_law 1031 = .ok (.iadd, 1) := by decide +kernel
theorem dL_law_1032 : decode cL_law 1032 = .ok (.iaload, 1) := by decide +kernel
theorem dL_law_1033 : decode cL_law 1033 = .ok (.invokevirtual 128, 3) := by decide +kernel
theorem dL_law_1036 : decode cL_law 1036 = .ok (.if_icmp .eq 18, 3) := by decide +kernel
theorem dL_law_1039 : decode cL_law 1039 = .ok (.iconst 0, 1) := by decide +kernel
theorem dL_law_1040 : decode cL_law 1040 = .ok (.ireturn, 1) := by decide +kernel
theorem dL_law_1041 : decode cL_law 1041 = .ok (.aload_n 1, 1) := by decide +kernel
theorem dL_law_1042 : decode cL_law 1042 = .ok (.invokevirtual 129, 3) := by decide +kernel
theorem dL_law_1045 : decode cL_law 1045 = .ok (.aload_n 2, 1) := by decide +kernel
theorem dL_law_1046 : decode cL_law 1046 = .ok (.invokevirtual 132, 3) := by decide +kernel
theorem dL_law_1049 : decode cL_law 1049 = .ok (.if_icmp .eq 5, 3) := by decide +kernel
theorem dL_law_1052 : decode cL_law 1052 = .ok (.iconst 0, 1) := by decide +kernel
theorem dL_law_1053 : decode cL_law 1053 = .ok (.ireturn, 1) := by decide +kernel
theorem dL_law_1054 : decode cL_law 1054 = .ok (.iinc 4 6, 3) := by decide +kernel
theorem dL_law_1057 : decode cL_law 1057 = .ok (.goto (-1034), 3) := by decide +kernel
theorem dL_law_1060 : decode cL_law 1060 = .ok (.iconst 1, 1) := by decide +kernel
theorem dL_law_1061 : decode cL_law 1061 = .ok (.ireturn, 1) := by decide +kernel
