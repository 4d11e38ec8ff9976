theorem dX14_init_126 : decode cX14_init 126 = .ok (.aload_n 0, 1) := by decide +kernel
theorem dX14_init_127 : decode cX14_init 127 = .ok (.bipush 12, 2) := by decide +kernel
theorem dX14_init_129 : decode cX14_init 129 = .ok (.newarray .int, 2) := by decide +kernel
theorem dX14_init_131 : decode cX14_init 131 = .ok (.putfield 63, 3) := by decide +kernel
theorem dX14_init_134 : decode cX14_init 134 = .ok (.aload_n 0, 1) := by decide +kernel
theorem dX14_init_135 : decode cX14_init 135 = .ok (.bipush 12, 2) := by decide +kernel
theorem dX14_init_137 : decode cX14_init 137 = .ok (.newarray .int, 2) := by decide +kernel
theorem dX14_init_139 : decode cX14_init 139 = .ok (.putfield 66, 3) := by decide +kernel
theorem dX14_init_142 : decode cX14_init 142 = .ok (.aload_n 0, 1) := by decide +kernel
theorem dX14_init_143 : decode cX14_init 143 = .ok (.bipush 12, 2) := by decide +kernel
theorem dX14_init_145 : decode cX14_init 145 = .ok (.newarray .int, 2) := by decide +kernel
theorem dX14_init_147 : decode cX14_init 147 = .ok (.putfield 69, 3) := by decide +kernel
theorem dX14_init_150 : decode cX14_init 150 = .ok (.aload_n 0, 1) := by decide +kernel
theorem dX14_init_151 : decode cX14_init 151 = .ok (.bipush 12, 2) := by decide +kernel
theorem dX14_init_153 : decode cX14_init 153 = .ok (.newarray .long, 2) := by decide +kernel
theorem dX14_init_155 : decode cX14_init 155 = .ok (.putfield 72, 3) := by decide +kernel
theorem dX14_init_158 : decode cX14_init 158 = .ok (.return_, 1) := by decide +kernel
theorem dX14_refused_0 : decode cX14_refused 0 = .ok (.aload_n 0, 1) := by decide +kernel
theorem dX14_refused_1 : decode cX14_refused 1 = .ok (.iload_n 1, 1) := by decide +kernel
theorem dX14_refused_2 : decode cX14_refused 2 = .ok (.putfield 79, 3) := by decide +kernel
theorem dX14_refused_5 : decode cX14_refused 5 = .ok (.aload_n 0, 1) := by decide +kernel
theorem dX14_refused_6 : decode cX14_refused 6 = .ok (.iconst (-1), 1) := by decide +kernel
theorem dX14_refused_7 : decode cX14_refused 7 = .ok (.putfield 9, 3) := by decide +kernel
theorem dX14_refused_10 : decode cX14_refused 10 = .ok (.iconst (-1), 1) := by decide +kernel
theorem dX14_refused_11 : decode cX14_refused 11 = .ok (.ireturn, 1) := by decide +kernel
theorem dX14_done_0 : decode cX14_done 0 = .ok (.aload_n 0, 1) := by decide +kernel
theorem dX14_done_1 : decode cX14_done 1 = .ok (.iconst 0, 1) := by decide +kernel
theorem dX14_done_2 : decode cX14_done 2 = .ok (.putfield 79, 3) := by decide +kernel
theorem dX14_done_5 : decode cX14_done 5 = .ok (.aload_n 0, 1) := by decide +kernel
theorem dX14_done_6 : decode cX14_done 6 = .ok (.iconst (-1), 1) := by decide +kernel
theorem dX14_done_7 : decode cX14_done 7 = .ok (.putfield 9, 3) := by decide +kernel
theorem dX14_done_10 : decode cX14_done 10 = .ok (.iload_n 1, 1) := by decide +kernel
theorem dX14_done_11 : decode cX14_done 11 = .ok (.ireturn, 1) := by decide +kernel
theorem dX14_in_0 : decode cX14_in 0 = .ok (.iload_n 0, 1) := by decide +kernel
theorem dX14_in_1 : decode cX14_in 1 = .ok (.iload_n 1, 1) := by decide +kernel
theorem dX14_in_2 : decode cX14_in 2 = .ok (.if_icmp .lt 12, 3) := by decide +kernel
theorem dX14_in_5 : decode cX14_in 5 = .ok (.iload_n 0, 1) := by decide +kernel
theorem dX14_in_6 : decode cX14_in 6 = .ok (.iload_n 2, 1) := by decide +kernel
theorem dX14_in_7 : decode cX14_in 7 = .ok (.if_icmp .gt 7, 3) := by decide +kernel
theorem dX14_in_10 : decode cX14_in 10 = .ok (.iconst 1, 1) := by decide +kernel
theorem dX14_in_11 : decode cX14_in 11 = .ok (.goto 4, 3) := by decide +kernel
theorem dX14_in_14 : decode cX14_in 14 = .ok (.iconst 0, 1) := by decide +kernel
theorem dX14_in_15 : decode cX14_in 15 = .ok (.ireturn, 1) := by decide +kernel
theorem dX14_bits_0 : decode cX14_bits 0 = .ok (.iconst 0, 1) := by decide +kernel
theorem dX14_bits_1 : decode cX14_bits 1 = .ok (.istore_n 1, 1) := by decide +kernel
theorem dX14_bits_2 : decode cX14_bits 2 = .ok (.iload_n 0, 1) := by decide +kernel
theorem dX14_bits_3 : decode cX14_bits 3 = .ok (.istore_n 2, 1) := by decide +kernel
theorem dX14_bits_4 : decode cX14_bits 4 = .ok (.iload_n 2, 1) := by decide +kernel
theorem dX14_bits_5 : decode cX14_bits 5 = .ok (.ifCond .eq 15, 3) := by decide +kernel
theorem dX14_bits_8 : decode cX14_bits 8 = .ok (.iinc 1 1, 3) := by decide +kernel
theorem dX14_bits_11 : decode cX14_bits 11 = .ok (.iload_n 2, 1) := by decide +kernel
theorem dX14_bits_12 : decode cX14_bits 12 = .ok (.iload_n 2, 1) := by decide +kernel
theorem dX14_bits_13 : decode cX14_bits 13 = .ok (.iconst 1, 1) := by decide +kernel
theorem dX14_bits_14 : decode cX14_bits 14 = .ok (.isub, 1) := by decide +kernel
theorem dX14_bits_15 : decode cX14_bits 15 = .ok (.iand, 1) := by decide +kernel
theorem dX14_bits_16 : decode cX14_bits 16 = .ok (.istore_n 2, 1) := by decide +kernel
theorem dX14_bits_17 : decode cX14_bits 17 = .ok (.goto (-13), 3) := by decide +kernel
theorem dX14_bits_20 : decode cX14_bits 20 = .ok (.iload_n 1, 1) := by decide +kernel
theorem dX14_bits_21 : decode cX14_bits 21 = .ok (.ireturn, 1) := by decide +kernel
theorem dX14_stop_0 : decode cX14_stop 0 = .ok (.aload_n 0, 1) := by decide +kernel
theorem dX14_stop_1 : decode cX14_stop 1 = .ok (.getfield 29, 3) := by decide +kernel
theorem dX14_stop_4 : decode cX14_stop 4 = .ok (.iload_n 1, 1) := by decide +kernel
theorem dX14_stop_5 : decode cX14_stop 5 = .ok (.putfield 82, 3) := by decide +kernel
theorem dX14_stop_8 : decode cX14_stop 8 = .ok (.aload_n 0, 1) := by decide +kernel
theorem dX14_stop_9 : decode cX14_stop 9 = .ok (.getfield 29, 3) := by decide +kernel
theorem dX14_stop_12 : decode cX14_stop 12 = .ok (.iload_n 2, 1) := by decide +kernel
theorem dX14_stop_13 : decode cX14_stop 13 = .ok (.putfield 85, 3) := by decide +kernel
theorem dX14_stop_16 : decode cX14_stop 16 = .ok (.aload_n 0, 1) := by decide +kernel
theorem dX14_stop_17 : decode cX14_stop 17 = .ok (.getfield 29, 3) := by decide +kernel
theorem dX14_stop_20 : decode cX14_stop 20 = .ok (.areturn, 1) := by decide +kernel
theorem dX14_byteAt_0 : decode cX14_byteAt 0 = .ok (.iload_n 1, 1) := by decide +kernel
theorem dX14_byteAt_1 : decode cX14_byteAt 1 = .ok (.aload_n 0, 1) := by decide +kernel
theorem dX14_byteAt_2 : decode cX14_byteAt 2 = .ok (.getfield 88, 3) := by decide +kernel
theorem dX14_byteAt_5 : decode cX14_byteAt 5 = .ok (.if_icmp .ge 16, 3) := by decide +kernel
theorem dX14_byteAt_8 : decode cX14_byteAt 8 = .ok (.aload_n 0, 1) := by decide +kernel
theorem dX14_byteAt_9 : decode cX14_byteAt 9 = .ok (.getfield 33, 3) := by decide +kernel
theorem dX14_byteAt_12 : decode cX14_byteAt 12 = .ok (.iload_n 1, 1) := by decide +kernel
theorem dX14_byteAt_13 : decode cX14_byteAt 13 = .ok (.baload, 1) := by decide +kernel
theorem dX14_byteAt_14 : decode cX14_byteAt 14 = .ok (.sipush 255, 3) := by decide +kernel
theorem dX14_byteAt_17 : decode cX14_byteAt 17 = .ok (.iand, 1) := by decide +kernel
theorem dX14_byteAt_18 : decode cX14_byteAt 18 = .ok (.goto 4, 3) := by decide +kernel
theorem dX14_byteAt_21 : decode cX14_byteAt 21 = .ok (.iconst (-1), 1) := by decide +kernel
theorem dX14_byteAt_22 : decode cX14_byteAt 22 = .ok (.ireturn, 1) := by decide +kernel
theorem dX14_isLetter_0 : decode cX14_isLetter 0 = .ok (.iload_n 0, 1) := by decide +kernel
theorem dX14_isLetter_1 : decode cX14_isLetter 1 = .ok (.bipush 97, 2) := by decide +kernel
theorem dX14_isLetter_3 : decode cX14_isLetter 3 = .ok (.if_icmp .lt 13, 3) := by decide +kernel
theorem dX14_isLetter_6 : decode cX14_isLetter 6 = .ok (.iload_n 0, 1) := by decide +kernel
theorem dX14_isLetter_7 : decode cX14_isLetter 7 = .ok (.bipush 122, 2) := by decide +kernel
theorem dX14_isLetter_9 : decode cX14_isLetter 9 = .ok (.if_icmp .gt 7, 3) := by decide +kernel
theorem dX14_isLetter_12 : decode cX14_isLetter 12 = .ok (.iconst 1, 1) := by decide +kernel
theorem dX14_isLetter_13 : decode cX14_isLetter 13 = .ok (.goto 4, 3) := by decide +kernel
theorem dX14_isLetter_16 : decode cX14_isLetter 16 = .ok (.iconst 0, 1) := by decide +kernel
theorem dX14_isLetter_17 : decode cX14_isLetter 17 = .ok (.ireturn, 1) := by decide +kernel
theorem dX14_isDigit_0 : decode cX14_isDigit 0 = .ok (.iload_n 0, 1) := by decide +kernel
theorem dX14_isDigit_1 : decode cX14_isDigit 1 = .ok (.bipush 48, 2) := by decide +kernel
theorem dX14_isDigit_3 : decode cX14_isDigit 3 = .ok (.if_icmp .lt 13, 3) := by decide +kernel
theorem dX14_isDigit_6 : decode cX14_isDigit 6 = .ok (.iload_n 0, 1) := by decide +kernel
theorem dX14_isDigit_7 : decode cX14_isDigit 7 = .ok (.bipush 57, 2) := by decide +kernel
theorem dX14_isDigit_9 : decode cX14_isDigit 9 = .ok (.if_icmp .gt 7, 3) := by decide +kernel
theorem dX14_isDigit_12 : decode cX14_isDigit 12 = .ok (.iconst 1, 1) := by decide +kernel
theorem dX14_isDigit_13 : decode cX14_isDigit 13 = .ok (.goto 4, 3) := by decide +kernel
theorem dX14_isDigit_16 : decode cX14_isDigit 16 = .ok (.iconst 0, 1) := by decide +kernel
theorem dX14_isDigit_17 : decode cX14_isDigit 17 = .ok (.ireturn, 1) := by decide +kernel
theorem dX14_wordOf_0 : decode cX14_wordOf 0 = .ok (.lconst 0, 1) := by decide +kernel
theorem dX14_wordOf_1 : decode cX14_wordOf 1 = .ok (.lstore_n 1, 1) := by decide +kernel
theorem dX14_wordOf_2 : decode cX14_wordOf 2 = .ok (.iconst 0, 1) := by decide +kernel
theorem dX14_wordOf_3 : decode cX14_wordOf 3 = .ok (.istore_n 3, 1) := by decide +kernel
theorem dX14_wordOf_4 : decode cX14_wordOf 4 = .ok (.iload_n 3, 1) := by decide +kernel
theorem dX14_wordOf_5 : decode cX14_wordOf 5 = .ok (.aload_n 0, 1) := by decide +kernel
theorem dX14_wordOf_6 : decode cX14_wordOf 6 = .ok (.invokevirtual 91, 3) := by decide +kernel
theorem dX14_wordOf_9 : decode cX14_wordOf 9 = .ok (.if_icmp .ge 27, 3) := by decide +kernel
theorem dX14_wordOf_12 : decode cX14_wordOf 12 = .ok (.ldc2_w 97, 3) := by decide +kernel
theorem dX14_wordOf_15 : decode cX14_wordOf 15 = .ok (.lload_n 1, 1) := by decide +kernel
theorem dX14_wordOf_16 : decode cX14_wordOf 16 = .ok (.lmul, 1) := by decide +kernel
theorem dX14_wordOf_17 : decode cX14_wordOf 17 = .ok (.aload_n 0, 1) := by decide +kernel
theorem dX14_wordOf_18 : decode cX14_wordOf 18 = .ok (.iload_n 3, 1) := by decide +kernel
theorem dX14_wordOf_19 : decode cX14_wordOf 19 = .ok (.invokevirtual 99, 3) := by decide +kernel
theorem dX14_wordOf_22 : decode cX14_wordOf 22 = .ok (.bipush 97, 2) := by decide +kernel
theorem dX14_wordOf_24 : decode cX14_wordOf 24 = .ok (.isub, 1) := by decide +kernel
theorem dX14_wordOf_25 : decode cX14_wordOf 25 = .ok (.iconst 1, 1) := by decide +kernel
theorem dX14_wordOf_26 : decode cX14_wordOf 26 = .ok (.iadd, 1) := by decide +kernel
theorem dX14_wordOf_27 : decode cX14_wordOf 27 = .ok (.i2l, 1) := by decide +kernel
theorem dX14_wordOf_28 : decode cX14_wordOf 28 = .ok (.ladd, 1) := by decide +kernel
theorem dX14_wordOf_29 : decode cX14_wordOf 29 = .ok (.lstore_n 1, 1) := by decide +kernel
theorem dX14_wordOf_30 : decode cX14_wordOf 30 = .ok (.iinc 3 1, 3) := by decide +kernel
theorem dX14_wordOf_33 : decode cX14_wordOf 33 = .ok (.goto (-29), 3) := by decide +kernel
theorem dX14_wordOf_36 : decode cX14_wordOf 36 = .ok (.lload_n 1, 1) := by decide +kernel
theorem dX14_wordOf_37 : decode cX14_wordOf 37 = .ok (.lreturn, 1) := by decide +kernel
theorem dX14_next_0 : decode cX14_next 0 = .ok (.aload_n 0, 1) := by decide +kernel
theorem dX14_next_1 : decode cX14_next 1 = .ok (.aload_n 0, 1) := by decide +kernel
theorem dX14_next_2 : decode cX14_next 2 = .ok (.getfield 103, 3) := by decide +kernel
theorem dX14_next_5 : decode cX14_next 5 = .ok (.invokevirtual 106, 3) := by decide +kernel
theorem dX14_next_8 : decode cX14_next 8 = .ok (.bipush 32, 2) := by decide +kernel
theorem dX14_next_10 : decode cX14_next 10 = .ok (.if_icmp .eq 16, 3) := by decide +kernel
theorem dX14_next_13 : decode cX14_next 13 = .ok (.aload_n 0, 1) := by decide +kernel
theorem dX14_next_14 : decode cX14_next 14 = .ok (.aload_n 0, 1) := by decide +kernel
theorem dX14_next_15 : decode cX14_next 15 = .ok (.getfield 103, 3) := by decide +kernel
theorem dX14_next_18 : decode cX14_next 18 = .ok (.invokevirtual 106, 3) := by decide +kernel
theorem dX14_next_21 : decode cX14_next 21 = .ok (.bipush 10, 2) := by decide +kernel
theorem dX14_next_23 : decode cX14_next 23 = .ok (.if_icmp .ne 16, 3) := by decide +kernel
theorem dX14_next_26 : decode cX14_next 26 = .ok (.aload_n 0, 1) := by decide +kernel
theorem dX14_next_27 : decode cX14_next 27 = .ok (.dup, 1) := by decide +kernel
theorem dX14_next_28 : decode cX14_next 28 = .ok (.getfield 103, 3) := by decide +kernel
theorem dX14_next_31 : decode cX14_next 31 = .ok (.iconst 1, 1) := by decide +kernel
theorem dX14_next_32 : decode cX14_next 32 = .ok (.iadd, 1) := by decide +kernel
theorem dX14_next_33 : decode cX14_next 33 = .ok (.putfield 103, 3) := by decide +kernel
theorem dX14_next_36 : decode cX14_next 36 = .ok (.goto (-36), 3) := by decide +kernel
theorem dX14_next_39 : decode cX14_next 39 = .ok (.aload_n 0, 1) := by decide +kernel
theorem dX14_next_40 : decode cX14_next 40 = .ok (.aload_n 0, 1) := by decide +kernel
theorem dX14_next_41 : decode cX14_next 41 = .ok (.getfield 103, 3) := by decide +kernel
theorem dX14_next_44 : decode cX14_next 44 = .ok (.putfield 110, 3) := by decide +kernel
theorem dX14_next_47 : decode cX14_next 47 = .ok (.aload_n 0, 1) := by decide +kernel
theorem dX14_next_48 : decode cX14_next 48 = .ok (.iconst 0, 1) := by decide +kernel
theorem dX14_next_49 : decode cX14_next 49 = .ok (.putfield 111, 3) := by decide +kernel
theorem dX14_next_52 : decode cX14_next 52 = .ok (.aload_n 0, 1) := by decide +kernel
theorem dX14_next_53 : decode cX14_next 53 = .ok (.iconst 0, 1) := by decide +kernel
theorem dX14_next_54 : decode cX14_next 54 = .ok (.putfield 114, 3) := by decide +kernel
theorem dX14_next_57 : decode cX14_next 57 = .ok (.aload_n 0, 1) := by decide +kernel
theorem dX14_next_58 : decode cX14_next 58 = .ok (.aload_n 0, 1) := by decide +kernel
theorem dX14_next_59 : decode cX14_next 59 = .ok (.getfield 103, 3) := by decide +kernel
theorem dX14_next_62 : decode cX14_next 62 = .ok (.invokevirtual 106, 3) := by decide +kernel
theorem dX14_next_65 : decode cX14_next 65 = .ok (.istore_n 1, 1) := by decide +kernel
theorem dX14_next_66 : decode cX14_next 66 = .ok (.iconst 0, 1) := by decide +kernel
theorem dX14_next_67 : decode cX14_next 67 = .ok (.istore_n 2, 1) := by decide +kernel
theorem dX14_next_68 : decode cX14_next 68 = .ok (.iload_n 1, 1) := by decide +kernel
theorem dX14_next_69 : decode cX14_next 69 = .ok (.iconst (-1), 1) := by decide +kernel
theorem dX14_next_70 : decode cX14_next 70 = .ok (.if_icmp .ne 11, 3) := by decide +kernel
theorem dX14_next_73 : decode cX14_next 73 = .ok (.aload_n 0, 1) := by decide +kernel
theorem dX14_next_74 : decode cX14_next 74 = .ok (.iconst 1, 1) := by decide +kernel
theorem dX14_next_75 : decode cX14_next 75 = .ok (.putfield 111, 3) := by decide +kernel
theorem dX14_next_78 : decode cX14_next 78 = .ok (.goto 208, 3) := by decide +kernel
theorem dX14_next_81 : decode cX14_next 81 = .ok (.iload_n 1, 1) := by decide +kernel
theorem dX14_next_82 : decode cX14_next 82 = .ok (.invokestatic 117, 3) := by decide +kernel
theorem dX14_next_85 : decode cX14_next 85 = .ok (.ifCond .eq 90, 3) := by decide +kernel
theorem dX14_next_88 : decode cX14_next 88 = .ok (.aload_n 0, 1) := by decide +kernel
theorem dX14_next_89 : decode cX14_next 89 = .ok (.lconst 0, 1) := by decide +kernel
theorem dX14_next_90 : decode cX14_next 90 = .ok (.putfield 121, 3) := by decide +kernel
theorem dX14_next_93 : decode cX14_next 93 = .ok (.aload_n 0, 1) := by decide +kernel
theorem dX14_next_94 : decode cX14_next 94 = .ok (.aload_n 0, 1) := by decide +kernel
theorem dX14_next_95 : decode cX14_next 95 = .ok (.getfield 103, 3) := by decide +kernel
theorem dX14_next_98 : decode cX14_next 98 = .ok (.invokevirtual 106, 3) := by decide +kernel
theorem dX14_next_101 : decode cX14_next 101 = .ok (.invokestatic 117, 3) := by decide +kernel
theorem dX14_next_104 : decode cX14_next 104 = .ok (.ifCond .eq 52, 3) := by decide +kernel
theorem dX14_next_107 : decode cX14_next 107 = .ok (.iload_n 2, 1) := by decide +kernel
theorem dX14_next_108 : decode cX14_next 108 = .ok (.bipush 8, 2) := by decide +kernel
theorem dX14_next_110 : decode cX14_next 110 = .ok (.if_icmp .ge 30, 3) := by decide +kernel
theorem dX14_next_113 : decode cX14_next 113 = .ok (.aload_n 0, 1) := by decide +kernel
theorem dX14_next_114 : decode cX14_next 114 = .ok (.ldc2_w 97, 3) := by decide +kernel
theorem dX14_next_117 : decode cX14_next 117 = .ok (.aload_n 0, 1) := by decide +kernel
theorem dX14_next_118 : decode cX14_next 118 = .ok (.getfield 121, 3) := by decide +kernel
theorem dX14_next_121 : decode cX14_next 121 = .ok (.lmul, 1) := by decide +kernel
theorem dX14_next_122 : decode cX14_next 122 = .ok (.aload_n 0, 1) := by decide +kernel
theorem dX14_next_123 : decode cX14_next 123 = .ok (.aload_n 0, 1) := by decide +kernel
theorem dX14_next_124 : decode cX14_next 124 = .ok (.getfield 103, 3) := by decide +kernel
theorem dX14_next_127 : decode cX14_next 127 = .ok (.invokevirtual 106, 3) := by decide +kernel
theorem dX14_next_130 : decode cX14_next 130 = .ok (.bipush 97, 2) := by decide +kernel
theorem dX14_next_132 : decode cX14_next 132 = .ok (.isub, 1) := by decide +kernel
theorem dX14_next_133 : decode cX14_next 133 = .ok (.iconst 1, 1) := by decide +kernel
theorem dX14_next_134 : decode cX14_next 134 = .ok (.iadd, 1) := by decide +kernel
theorem dX14_next_135 : decode cX14_next 135 = .ok (.i2l, 1) := by decide +kernel
theorem dX14_next_136 : decode cX14_next 136 = .ok (.ladd, 1) := by decide +kernel
theorem dX14_next_137 : decode cX14_next 137 = .ok (.putfield 121, 3) := by decide +kernel
theorem dX14_next_140 : decode cX14_next 140 = .ok (.iinc 2 1, 3) := by decide +kernel
theorem dX14_next_143 : decode cX14_next 143 = .ok (.aload_n 0, 1) := by decide +kernel
theorem dX14_next_144 : decode cX14_next 144 = .ok (.dup, 1) := by decide +kernel
theorem dX14_next_145 : decode cX14_next 145 = .ok (.getfield 103, 3) := by decide +kernel
theorem dX14_next_148 : decode cX14_next 148 = .ok (.iconst 1, 1) := by decide +kernel
theorem dX14_next_149 : decode cX14_next 149 = .ok (.iadd, 1) := by decide +kernel
theorem dX14_next_150 : decode cX14_next 150 = .ok (.putfield 103, 3) := by decide +kernel
theorem dX14_next_153 : decode cX14_next 153 = .ok (.goto (-60), 3) := by decide +kernel
theorem dX14_next_156 : decode cX14_next 156 = .ok (.aload_n 0, 1) := by decide +kernel
theorem dX14_next_157 : decode cX14_next 157 = .ok (.iload_n 2, 1) := by decide +kernel
theorem dX14_next_158 : decode cX14_next 158 = .ok (.putfield 125, 3) := by decide +kernel
theorem dX14_next_161 : decode cX14_next 161 = .ok (.iload_n 2, 1) := by decide +kernel
theorem dX14_next_162 : decode cX14_next 162 = .ok (.bipush 8, 2) := by decide +kernel
theorem dX14_next_164 : decode cX14_next 164 = .ok (.if_icmp .gt 122, 3) := by decide +kernel
theorem dX14_next_167 : decode cX14_next 167 = .ok (.aload_n 0, 1) := by decide +kernel
theorem dX14_next_168 : decode cX14_next 168 = .ok (.iconst 2, 1) := by decide +kernel
theorem dX14_next_169 : decode cX14_next 169 = .ok (.putfield 111, 3) := by decide +kernel
theorem dX14_next_172 : decode cX14_next 172 = .ok (.goto 114, 3) := by decide +kernel
theorem dX14_next_175 : decode cX14_next 175 = .ok (.iload_n 1, 1) := by decide +kernel
theorem dX14_next_176 : decode cX14_next 176 = .ok (.invokestatic 128, 3) := by decide +kernel
theorem dX14_next_179 : decode cX14_next 179 = .ok (.ifCond .eq 80, 3) := by decide +kernel
theorem dX14_next_182 : decode cX14_next 182 = .ok (.aload_n 0, 1) := by decide +kernel
theorem dX14_next_183 : decode cX14_next 183 = .ok (.iconst 0, 1) := by decide +kernel
theorem dX14_next_184 : decode cX14_next 184 = .ok (.putfield 131, 3) := by decide +kernel
theorem dX14_next_187 : decode cX14_next 187 = .ok (.aload_n 0, 1) := by decide +kernel
theorem dX14_next_188 : decode cX14_next 188 = .ok (.aload_n 0, 1) := by decide +kernel
theorem dX14_next_189 : decode cX14_next 189 = .ok (.getfield 103, 3) := by decide +kernel
theorem dX14_next_192 : decode cX14_next 192 = .ok (.invokevirtual 106, 3) := by decide +kernel
theorem dX14_next_195 : decode cX14_next 195 = .ok (.invokestatic 128, 3) := by decide +kernel
theorem dX14_next_198 : decode cX14_next 198 = .ok (.ifCond .eq 47, 3) := by decide +kernel
theorem dX14_next_201 : decode cX14_next 201 = .ok (.iload_n 2, 1) := by decide +kernel
theorem dX14_next_202 : decode cX14_next 202 = .ok (.iconst 5, 1) := by decide +kernel
theorem dX14_next_203 : decode cX14_next 203 = .ok (.if_icmp .ge 26, 3) := by decide +kernel
theorem dX14_next_206 : decode cX14_next 206 = .ok (.aload_n 0, 1) := by decide +kernel
theorem dX14_next_207 : decode cX14_next 207 = .ok (.bipush 10, 2) := by decide +kernel
theorem dX14_next_209 : decode cX14_next 209 = .ok (.aload_n 0, 1) := by decide +kernel
theorem dX14_next_210 : decode cX14_next 210 = .ok (.getfield 131, 3) := by decide +kernel
theorem dX14_next_213 : decode cX14_next 213 = .ok (.imul, 1) := by decide +kernel
theorem dX14_next_214 : decode cX14_next 214 = .ok (.aload_n 0, 1) := by decide +kernel
theorem dX14_next_215 : decode cX14_next 215 = .ok (.aload_n 0, 1) := by decide +kernel
theorem dX14_next_216 : decode cX14_next 216 = .ok (.getfield 103, 3) := by decide +kernel
theorem dX14_next_219 : decode cX14_next 219 = .ok (.invokevirtual 106, 3) := by decide +kernel
theorem dX14_next_222 : decode cX14_next 222 = .ok (.iadd, 1) := by decide +kernel
theorem dX14_next_223 : decode cX14_next 223 = .ok (.bipush 48, 2) := by decide +kernel
theorem dX14_next_225 : decode cX14_next 225 = .ok (.isub, 1) := by decide +kernel
theorem dX14_next_226 : decode cX14_next 226 = .ok (.putfield 131, 3) := by decide +kernel
theorem dX14_next_229 : decode cX14_next 229 = .ok (.iinc 2 1, 3) := by decide +kernel
theorem dX14_next_232 : decode cX14_next 232 = .ok (.aload_n 0, 1) := by decide +kernel
theorem dX14_next_233 : decode cX14_next 233 = .ok (.dup, 1) := by decide +kernel
theorem dX14_next_234 : decode cX14_next 234 = .ok (.getfield 103, 3) := by decide +kernel
theorem dX14_next_237 : decode cX14_next 237 = .ok (.iconst 1, 1) := by decide +kernel
theorem dX14_next_238 : decode cX14_next 238 = .ok (.iadd, 1) := by decide +kernel
theorem dX14_next_239 : decode cX14_next 239 = .ok (.putfield 103, 3) := by decide +kernel
theorem dX14_next_242 : decode cX14_next 242 = .ok (.goto (-55), 3) := by decide +kernel
theorem dX14_next_245 : decode cX14_next 245 = .ok (.iload_n 2, 1) := by decide +kernel
theorem dX14_next_246 : decode cX14_next 246 = .ok (.bipush 6, 2) := by decide +kernel
theorem dX14_next_248 : decode cX14_next 248 = .ok (.if_icmp .ge 38, 3) := by decide +kernel
theorem dX14_next_251 : decode cX14_next 251 = .ok (.aload_n 0, 1) := by decide +kernel
theorem dX14_next_252 : decode cX14_next 252 = .ok (.iconst 3, 1) := by decide +kernel
theorem dX14_next_253 : decode cX14_next 253 = .ok (.putfield 111, 3) := by decide +kernel
theorem dX14_next_256 : decode cX14_next 256 = .ok (.goto 30, 3) := by decide +kernel
theorem dX14_next_259 : decode cX14_next 259 = .ok (.iload_n 1, 1) := by decide +kernel
theorem dX14_next_260 : decode cX14_next 260 = .ok (.invokestatic 134, 3) := by decide +kernel
theorem dX14_next_263 : decode cX14_next 263 = .ok (.ifCond .eq 23, 3) := by decide +kernel
theorem dX14_next_266 : decode cX14_next 266 = .ok (.aload_n 0, 1) := by decide +kernel
theorem dX14_next_267 : decode cX14_next 267 = .ok (.iconst 4, 1) := by decide +kernel
theorem dX14_next_268 : decode cX14_next 268 = .ok (.putfield 111, 3) := by decide +kernel
theorem dX14_next_271 : decode cX14_next 271 = .ok (.aload_n 0, 1) := by decide +kernel
theorem dX14_next_272 : decode cX14_next 272 = .ok (.iload_n 1, 1) := by decide +kernel
theorem dX14_next_273 : decode cX14_next 273 = .ok (.putfield 114, 3) := by decide +kernel
theorem dX14_next_276 : decode cX14_next 276 = .ok (.aload_n 0, 1) := by decide +kernel
theorem dX14_next_277 : decode cX14_next 277 = .ok (.dup, 1) := by decide +kernel
theorem dX14_next_278 : decode cX14_next 278 = .ok (.getfield 103, 3) := by decide +kernel
theorem dX14_next_281 : decode cX14_next 281 = .ok (.iconst 1, 1) := by decide +kernel
theorem dX14_next_282 : decode cX14_next 282 = .ok (.iadd, 1) := by decide +kernel
theorem dX14_next_283 : decode cX14_next 283 = .ok (.putfield 103, 3) := by decide +kernel
theorem dX14_next_286 : decode cX14_next 286 = .ok (.return_, 1) := by decide +kernel
theorem dX14_isMark_0 : decode cX14_isMark 0 = .ok (.iload_n 0, 1) := by decide +kernel
theorem dX14_isMark_1 : decode cX14_isMark 1 = .ok (.bipush 40, 2) := by decide +kernel
theorem dX14_isMark_3 : decode cX14_isMark 3 = .ok (.if_icmp .eq 69, 3) := by decide +kernel
theorem dX14_isMark_6 : decode cX14_isMark 6 = .ok (.iload_n 0, 1) := by decide +kernel
theorem dX14_isMark_7 : decode cX14_isMark 7 = .ok (.bipush 41, 2) := by decide +kernel
theorem dX14_isMark_9 : decode cX14_isMark 9 = .ok (.if_icmp .eq 63, 3) := by decide +kernel
theorem dX14_isMark_12 : decode cX14_isMark 12 = .ok (.iload_n 0, 1) := by decide +kernel
theorem dX14_isMark_13 : decode cX14_isMark 13 = .ok (.bipush 123, 2) := by decide +kernel
theorem dX14_isMark_15 : decode cX14_isMark 15 = .ok (.if_icmp .eq 57, 3) := by decide +kernel
theorem dX14_isMark_18 : decode cX14_isMark 18 = .ok (.iload_n 0, 1) := by decide +kernel
theorem dX14_isMark_19 : decode cX14_isMark 19 = .ok (.bipush 125, 2) := by decide +kernel
theorem dX14_isMark_21 : decode cX14_isMark 21 = .ok (.if_icmp .eq 51, 3) := by decide +kernel
theorem dX14_isMark_24 : decode cX14_isMark 24 = .ok (.iload_n 0, 1) := by decide +kernel
theorem dX14_isMark_25 : decode cX14_isMark 25 = .ok (.bipush 44, 2) := by decide +kernel
theorem dX14_isMark_27 : decode cX14_isMark 27 = .ok (.if_icmp .eq 45, 3) := by decide +kernel
theorem dX14_isMark_30 : decode cX14_isMark 30 = .ok (.iload_n 0, 1) := by decide +kernel
theorem dX14_isMark_31 : decode cX14_isMark 31 = .ok (.bipush 59, 2) := by decide +kernel
theorem dX14_isMark_33 : decode cX14_isMark 33 = .ok (.if_icmp .eq 39, 3) := by decide +kernel
theorem dX14_isMark_36 : decode cX14_isMark 36 = .ok (.iload_n 0, 1) := by decide +kernel
theorem dX14_isMark_37 : decode cX14_isMark 37 = .ok (.bipush 61, 2) := by decide +kernel
theorem dX14_isMark_39 : decode cX14_isMark 39 = .ok (.if_icmp .eq 33, 3) := by decide +kernel
theorem dX14_isMark_42 : decode cX14_isMark 42 = .ok (.iload_n 0, 1) := by decide +kernel
theorem dX14_isMark_43 : decode cX14_isMark 43 = .ok (.bipush 60, 2) := by decide +kernel
theorem dX14_isMark_45 : decode cX14_isMark 45 = .ok (.if_icmp .eq 27, 3) := by decide +kernel
theorem dX14_isMark_48 : decode cX14_isMark 48 = .ok (.iload_n 0, 1) := by decide +kernel
theorem dX14_isMark_49 : decode cX14_isMark 49 = .ok (.bipush 62, 2) := by decide +kernel
theorem dX14_isMark_51 : decode cX14_isMark 51 = .ok (.if_icmp .eq 21, 3) := by decide +kernel
theorem dX14_isMark_54 : decode cX14_isMark 54 = .ok (.iload_n 0, 1) := by decide +kernel
theorem dX14_isMark_55 : decode cX14_isMark 55 = .ok (.bipush 43, 2) := by decide +kernel
theorem dX14_isMark_57 : decode cX14_isMark 57 = .ok (.if_icmp .eq 15, 3) := by decide +kernel
theorem dX14_isMark_60 : decode cX14_isMark 60 = .ok (.iload_n 0, 1) := by decide +kernel
theorem dX14_isMark_61 : decode cX14_isMark 61 = .ok (.bipush 45, 2) := by decide +kernel
theorem dX14_isMark_63 : decode cX14_isMark 63 = .ok (.if_icmp .eq 9, 3) := by decide +kernel
theorem dX14_isMark_66 : decode cX14_isMark 66 = .ok (.iload_n 0, 1) := by decide +kernel
theorem dX14_isMark_67 : decode cX14_isMark 67 = .ok (.bipush 42, 2) := by decide +kernel
theorem dX14_isMark_69 : decode cX14_isMark 69 = .ok (.if_icmp .ne 7, 3) := by decide +kernel
theorem dX14_isMark_72 : decode cX14_isMark 72 = .ok (.iconst 1, 1) := by decide +kernel
theorem dX14_isMark_73 : decode cX14_isMark 73 = .ok (.goto 4, 3) := by decide +kernel
theorem dX14_isMark_76 : decode cX14_isMark 76 = .ok (.iconst 0, 1) := by decide +kernel
theorem dX14_isMark_77 : decode cX14_isMark 77 = .ok (.ireturn, 1) := by decide +kernel
theorem dX14_isWord_0 : decode cX14_isWord 0 = .ok (.aload_n 0, 1) := by decide +kernel
theorem dX14_isWord_1 : decode cX14_isWord 1 = .ok (.getfield 111, 3) := by decide +kernel
theorem dX14_isWord_4 : decode cX14_isWord 4 = .ok (.iconst 2, 1) := by decide +kernel
theorem dX14_isWord_5 : decode cX14_isWord 5 = .ok (.if_icmp .ne 19, 3) := by decide +kernel
theorem dX14_isWord_8 : decode cX14_isWord 8 = .ok (.aload_n 0, 1) := by decide +kernel
theorem dX14_isWord_9 : decode cX14_isWord 9 = .ok (.getfield 121, 3) := by decide +kernel
theorem dX14_isWord_12 : decode cX14_isWord 12 = .ok (.aload_n 1, 1) := by decide +kernel
theorem dX14_isWord_13 : decode cX14_isWord 13 = .ok (.invokestatic 137, 3) := by decide +kernel
theorem dX14_isWord_16 : decode cX14_isWord 16 = .ok (.lcmp, 1) := by decide +kernel
theorem dX14_isWord_17 : decode cX14_isWord 17 = .ok (.ifCond .ne 7, 3) := by decide +kernel
theorem dX14_isWord_20 : decode cX14_isWord 20 = .ok (.iconst 1, 1) := by decide +kernel
theorem dX14_isWord_21 : decode cX14_isWord 21 = .ok (.goto 4, 3) := by decide +kernel
theorem dX14_isWord_24 : decode cX14_isWord 24 = .ok (.iconst 0, 1) := by decide +kernel
theorem dX14_isWord_25 : decode cX14_isWord 25 = .ok (.ireturn, 1) := by decide +kernel
theorem dX14_is_0 : decode cX14_is 0 = .ok (.aload_n 0, 1) := by decide +kernel
theorem dX14_is_1 : decode cX14_is 1 = .ok (.getfield 111, 3) := by decide +kernel
theorem dX14_is_4 : decode cX14_is 4 = .ok (.iconst 4, 1) := by decide +kernel
theorem dX14_is_5 : decode cX14_is 5 = .ok (.if_icmp .ne 15, 3) := by decide +kernel
theorem dX14_is_8 : decode cX14_is 8 = .ok (.aload_n 0, 1) := by decide +kernel
theorem dX14_is_9 : decode cX14_is 9 = .ok (.getfield 114, 3) := by decide +kernel
theorem dX14_is_12 : decode cX14_is 12 = .ok (.iload_n 1, 1) := by decide +kernel
theorem dX14_is_13 : decode cX14_is 13 = .ok (.if_icmp .ne 7, 3) := by decide +kernel
theorem dX14_is_16 : decode cX14_is 16 = .ok (.iconst 1, 1) := by decide +kernel
theorem dX14_is_17 : decode cX14_is 17 = .ok (.goto 4, 3) := by decide +kernel
theorem dX14_is_20 : decode cX14_is 20 = .ok (.iconst 0, 1) := by decide +kernel
theorem dX14_is_21 : decode cX14_is 21 = .ok (.ireturn, 1) := by decide +kernel
theorem dX14_need_0 : decode cX14_need 0 = .ok (.aload_n 0, 1) := by decide +kernel
theorem dX14_need_1 : decode cX14_need 1 = .ok (.iload_n 1, 1) := by decide +kernel
theorem dX14_need_2 : decode cX14_need 2 = .ok (.invokevirtual 141, 3) := by decide +kernel
theorem dX14_need_5 : decode cX14_need 5 = .ok (.ifCond .ne 13, 3) := by decide +kernel
theorem dX14_need_8 : decode cX14_need 8 = .ok (.aload_n 0, 1) := by decide +kernel
theorem dX14_need_9 : decode cX14_need 9 = .ok (.iconst 1, 1) := by decide +kernel
theorem dX14_need_10 : decode cX14_need 10 = .ok (.aload_n 0, 1) := by decide +kernel
theorem dX14_need_11 : decode cX14_need 11 = .ok (.getfield 110, 3) := by decide +kernel
theorem dX14_need_14 : decode cX14_need 14 = .ok (.invokevirtual 144, 3) := by decide +kernel
theorem dX14_need_17 : decode cX14_need 17 = .ok (.athrow, 1) := by decide +kernel
theorem dX14_need_18 : decode cX14_need 18 = .ok (.aload_n 0, 1) := by decide +kernel
theorem dX14_need_19 : decode cX14_need 19 = .ok (.invokevirtual 147, 3) := by decide +kernel
theorem dX14_need_22 : decode cX14_need 22 = .ok (.return_, 1) := by decide +kernel
theorem dX14_isPlace_0 : decode cX14_isPlace 0 = .ok (.aload_n 0, 1) := by decide +kernel
theorem dX14_isPlace_1 : decode cX14_isPlace 1 = .ok (.getfield 111, 3) := by decide +kernel
theorem dX14_isPlace_4 : decode cX14_isPlace 4 = .ok (.iconst 2, 1) := by decide +kernel
theorem dX14_isPlace_5 : decode cX14_isPlace 5 = .ok (.if_icmp .ne 26, 3) := by decide +kernel
theorem dX14_isPlace_8 : decode cX14_isPlace 8 = .ok (.aload_n 0, 1) := by decide +kernel
theorem dX14_isPlace_9 : decode cX14_isPlace 9 = .ok (.getfield 125, 3) := by decide +kernel
theorem dX14_isPlace_12 : decode cX14_isPlace 12 = .ok (.iconst 1, 1) := by decide +kernel
theorem dX14_isPlace_13 : decode cX14_isPlace 13 = .ok (.if_icmp .ne 18, 3) := by decide +kernel
theorem dX14_isPlace_16 : decode cX14_isPlace 16 = .ok (.aload_n 0, 1) := by decide +kernel
theorem dX14_isPlace_17 : decode cX14_isPlace 17 = .ok (.getfield 121, 3) := by decide +kernel
theorem dX14_isPlace_20 : decode cX14_isPlace 20 = .ok (.ldc2_w 150, 3) := by decide +kernel
theorem dX14_isPlace_23 : decode cX14_isPlace 23 = .ok (.lcmp, 1) := by decide +kernel
theorem dX14_isPlace_24 : decode cX14_isPlace 24 = .ok (.ifCond .gt 7, 3) := by decide +kernel
theorem dX14_isPlace_27 : decode cX14_isPlace 27 = .ok (.iconst 1, 1) := by decide +kernel
theorem dX14_isPlace_28 : decode cX14_isPlace 28 = .ok (.goto 4, 3) := by decide +kernel
theorem dX14_isPlace_31 : decode cX14_isPlace 31 = .ok (.iconst 0, 1) := by decide +kernel
theorem dX14_isPlace_32 : decode cX14_isPlace 32 = .ok (.ireturn, 1) := by decide +kernel
theorem dX14_isName_0 : decode cX14_isName 0 = .ok (.aload_n 0, 1) := by decide +kernel
theorem dX14_isName_1 : decode cX14_isName 1 = .ok (.getfield 111, 3) := by decide +kernel
theorem dX14_isName_4 : decode cX14_isName 4 = .ok (.iconst 2, 1) := by decide +kernel
theorem dX14_isName_5 : decode cX14_isName 5 = .ok (.if_icmp .ne 69, 3) := by decide +kernel
theorem dX14_isName_8 : decode cX14_isName 8 = .ok (.aload_n 0, 1) := by decide +kernel
theorem dX14_isName_9 : decode cX14_isName 9 = .ok (.getfield 125, 3) := by decide +kernel
theorem dX14_isName_12 : decode cX14_isName 12 = .ok (.iconst 1, 1) := by decide +kernel
theorem dX14_isName_13 : decode cX14_isName 13 = .ok (.if_icmp .le 61, 3) := by decide +kernel
theorem dX14_isName_16 : decode cX14_isName 16 = .ok (.aload_n 0, 1) := by decide +kernel
theorem dX14_isName_17 : decode cX14_isName 17 = .ok (.ldc 152, 2) := by decide +kernel
theorem dX14_isName_19 : decode cX14_isName 19 = .ok (.invokevirtual 154, 3) := by decide +kernel
theorem dX14_isName_22 : decode cX14_isName 22 = .ok (.ifCond .ne 52, 3) := by decide +kernel
theorem dX14_isName_25 : decode cX14_isName 25 = .ok (.aload_n 0, 1) := by decide +kernel
theorem dX14_isName_26 : decode cX14_isName 26 = .ok (.ldc 158, 2) := by decide +kernel
theorem dX14_isName_28 : decode cX14_isName 28 = .ok (.invokevirtual 154, 3) := by decide +kernel
theorem dX14_isName_31 : decode cX14_isName 31 = .ok (.ifCond .ne 43, 3) := by decide +kernel
theorem dX14_isName_34 : decode cX14_isName 34 = .ok (.aload_n 0, 1) := by decide +kernel
theorem dX14_isName_35 : decode cX14_isName 35 = .ok (.ldc 160, 2) := by decide +kernel
theorem dX14_isName_37 : decode cX14_isName 37 = .ok (.invokevirtual 154, 3) := by decide +kernel
theorem dX14_isName_40 : decode cX14_isName 40 = .ok (.ifCond .ne 34, 3) := by decide +kernel
theorem dX14_isName_43 : decode cX14_isName 43 = .ok (.aload_n 0, 1) := by decide +kernel
theorem dX14_isName_44 : decode cX14_isName 44 = .ok (.ldc 162, 2) := by decide +kernel
theorem dX14_isName_46 : decode cX14_isName 46 = .ok (.invokevirtual 154, 3) := by decide +kernel
theorem dX14_isName_49 : decode cX14_isName 49 = .ok (.ifCond .ne 25, 3) := by decide +kernel
theorem dX14_isName_52 : decode cX14_isName 52 = .ok (.aload_n 0, 1) := by decide +kernel
theorem dX14_isName_53 : decode cX14_isName 53 = .ok (.ldc 164, 2) := by decide +kernel
theorem dX14_isName_55 : decode cX14_isName 55 = .ok (.invokevirtual 154, 3) := by decide +kernel
theorem dX14_isName_58 : decode cX14_isName 58 = .ok (.ifCond .ne 16, 3) := by decide +kernel
theorem dX14_isName_61 : decode cX14_isName 61 = .ok (.aload_n 0, 1) := by decide +kernel
theorem dX14_isName_62 : decode cX14_isName 62 = .ok (.ldc 166, 2) := by decide +kernel
theorem dX14_isName_64 : decode cX14_isName 64 = .ok (.invokevirtual 154, 3) := by decide +kernel
theorem dX14_isName_67 : decode cX14_isName 67 = .ok (.ifCond .ne 7, 3) := by decide +kernel
theorem dX14_isName_70 : decode cX14_isName 70 = .ok (.iconst 1, 1) := by decide +kernel
theorem dX14_isName_71 : decode cX14_isName 71 = .ok (.goto 4, 3) := by decide +kernel
theorem dX14_isName_74 : decode cX14_isName 74 = .ok (.iconst 0, 1) := by decide +kernel
theorem dX14_isName_75 : decode cX14_isName 75 = .ok (.ireturn, 1) := by decide +kernel
theorem dX14_reads_0 : decode cX14_reads 0 = .ok (.aload_n 0, 1) := by decide +kernel
theorem dX14_reads_1 : decode cX14_reads 1 = .ok (.getfield 23, 3) := by decide +kernel
theorem dX14_reads_4 : decode cX14_reads 4 = .ok (.iconst 0, 1) := by decide +kernel
theorem dX14_reads_5 : decode cX14_reads 5 = .ok (.putfield 168, 3) := by decide +kernel
theorem dX14_reads_8 : decode cX14_reads 8 = .ok (.aload_n 0, 1) := by decide +kernel
theorem dX14_reads_9 : decode cX14_reads 9 = .ok (.getfield 23, 3) := by decide +kernel
theorem dX14_reads_12 : decode cX14_reads 12 = .ok (.iconst 0, 1) := by decide +kernel
theorem dX14_reads_13 : decode cX14_reads 13 = .ok (.putfield 171, 3) := by decide +kernel
theorem dX14_reads_16 : decode cX14_reads 16 = .ok (.aload_n 0, 1) := by decide +kernel
theorem dX14_reads_17 : decode cX14_reads 17 = .ok (.getfield 23, 3) := by decide +kernel
theorem dX14_reads_20 : decode cX14_reads 20 = .ok (.iconst 0, 1) := by decide +kernel
theorem dX14_reads_21 : decode cX14_reads 21 = .ok (.putfield 174, 3) := by decide +kernel
theorem dX14_reads_24 : decode cX14_reads 24 = .ok (.aload_n 0, 1) := by decide +kernel
theorem dX14_reads_25 : decode cX14_reads 25 = .ok (.iconst 0, 1) := by decide +kernel
theorem dX14_reads_26 : decode cX14_reads 26 = .ok (.putfield 177, 3) := by decide +kernel
theorem dX14_reads_29 : decode cX14_reads 29 = .ok (.aload_n 0, 1) := by decide +kernel
theorem dX14_reads_30 : decode cX14_reads 30 = .ok (.iconst 0, 1) := by decide +kernel
theorem dX14_reads_31 : decode cX14_reads 31 = .ok (.putfield 180, 3) := by decide +kernel
theorem dX14_reads_34 : decode cX14_reads 34 = .ok (.aload_n 0, 1) := by decide +kernel
theorem dX14_reads_35 : decode cX14_reads 35 = .ok (.invokevirtual 147, 3) := by decide +kernel
theorem dX14_reads_38 : decode cX14_reads 38 = .ok (.iconst 1, 1) := by decide +kernel
theorem dX14_reads_39 : decode cX14_reads 39 = .ok (.istore_n 1, 1) := by decide +kernel
theorem dX14_reads_40 : decode cX14_reads 40 = .ok (.iload_n 1, 1) := by decide +kernel
theorem dX14_reads_41 : decode cX14_reads 41 = .ok (.ifCond .eq 24, 3) := by decide +kernel
theorem dX14_reads_44 : decode cX14_reads 44 = .ok (.aload_n 0, 1) := by decide +kernel
theorem dX14_reads_45 : decode cX14_reads 45 = .ok (.invokevirtual 183, 3) := by decide +kernel
theorem dX14_reads_48 : decode cX14_reads 48 = .ok (.aload_n 0, 1) := by decide +kernel
theorem dX14_reads_49 : decode cX14_reads 49 = .ok (.getfield 111, 3) := by decide +kernel
theorem dX14_reads_52 : decode cX14_reads 52 = .ok (.iconst 1, 1) := by decide +kernel
theorem dX14_reads_53 : decode cX14_reads 53 = .ok (.if_icmp .eq 7, 3) := by decide +kernel
theorem dX14_reads_56 : decode cX14_reads 56 = .ok (.iconst 1, 1) := by decide +kernel
theorem dX14_reads_57 : decode cX14_reads 57 = .ok (.goto 4, 3) := by decide +kernel
theorem dX14_reads_60 : decode cX14_reads 60 = .ok (.iconst 0, 1) := by decide +kernel
theorem dX14_reads_61 : decode cX14_reads 61 = .ok (.istore_n 1, 1) := by decide +kernel
theorem dX14_reads_62 : decode cX14_reads 62 = .ok (.goto (-22), 3) := by decide +kernel
theorem dX14_reads_65 : decode cX14_reads 65 = .ok (.iconst (-1), 1) := by decide +kernel
theorem dX14_reads_66 : decode cX14_reads 66 = .ok (.istore_n 2, 1) := by decide +kernel
theorem dX14_reads_67 : decode cX14_reads 67 = .ok (.iconst 0, 1) := by decide +kernel
theorem dX14_reads_68 : decode cX14_reads 68 = .ok (.istore_n 3, 1) := by decide +kernel
theorem dX14_reads_69 : decode cX14_reads 69 = .ok (.iload_n 3, 1) := by decide +kernel
theorem dX14_reads_70 : decode cX14_reads 70 = .ok (.aload_n 0, 1) := by decide +kernel
theorem dX14_reads_71 : decode cX14_reads 71 = .ok (.getfield 23, 3) := by decide +kernel
theorem dX14_reads_74 : decode cX14_reads 74 = .ok (.getfield 174, 3) := by decide +kernel
theorem dX14_reads_77 : decode cX14_reads 77 = .ok (.if_icmp .ge 110, 3) := by decide +kernel
theorem dX14_reads_80 : decode cX14_reads 80 = .ok (.aload_n 0, 1) := by decide +kernel
theorem dX14_reads_81 : decode cX14_reads 81 = .ok (.getfield 23, 3) := by decide +kernel
theorem dX14_reads_84 : decode cX14_reads 84 = .ok (.getfield 186, 3) := by decide +kernel
theorem dX14_reads_87 : decode cX14_reads 87 = .ok (.iload_n 3, 1) := by decide +kernel
theorem dX14_reads_88 : decode cX14_reads 88 = .ok (.iaload, 1) := by decide +kernel
theorem dX14_reads_89 : decode cX14_reads 89 = .ok (.iconst 5, 1) := by decide +kernel
theorem dX14_reads_90 : decode cX14_reads 90 = .ok (.if_icmp .eq 6, 3) := by decide +kernel
theorem dX14_reads_93 : decode cX14_reads 93 = .ok (.goto 88, 3) := by decide +kernel
theorem dX14_reads_96 : decode cX14_reads 96 = .ok (.aload_n 0, 1) := by decide +kernel
theorem dX14_reads_97 : decode cX14_reads 97 = .ok (.getfield 23, 3) := by decide +kernel
theorem dX14_reads_100 : decode cX14_reads 100 = .ok (.aload_n 0, 1) := by decide +kernel
theorem dX14_reads_101 : decode cX14_reads 101 = .ok (.getfield 23, 3) := by decide +kernel
theorem dX14_reads_104 : decode cX14_reads 104 = .ok (.getfield 189, 3) := by decide +kernel
theorem dX14_reads_107 : decode cX14_reads 107 = .ok (.iload_n 3, 1) := by decide +kernel
theorem dX14_reads_108 : decode cX14_reads 108 = .ok (.laload, 1) := by decide +kernel
theorem dX14_reads_109 : decode cX14_reads 109 = .ok (.invokevirtual 192, 3) := by decide +kernel
theorem dX14_reads_112 : decode cX14_reads 112 = .ok (.istore 4, 2) := by decide +kernel
theorem dX14_reads_114 : decode cX14_reads 114 = .ok (.iload 4, 2) := by decide +kernel
theorem dX14_reads_116 : decode cX14_reads 116 = .ok (.iconst (-1), 1) := by decide +kernel
theorem dX14_reads_117 : decode cX14_reads 117 = .ok (.if_icmp .eq 25, 3) := by decide +kernel
theorem dX14_reads_120 : decode cX14_reads 120 = .ok (.aload_n 0, 1) := by decide +kernel
theorem dX14_reads_121 : decode cX14_reads 121 = .ok (.getfield 23, 3) := by decide +kernel
theorem dX14_reads_124 : decode cX14_reads 124 = .ok (.getfield 196, 3) := by decide +kernel
theorem dX14_reads_127 : decode cX14_reads 127 = .ok (.iload 4, 2) := by decide +kernel
theorem dX14_reads_129 : decode cX14_reads 129 = .ok (.iaload, 1) := by decide +kernel
theorem dX14_reads_130 : decode cX14_reads 130 = .ok (.aload_n 0, 1) := by decide +kernel
theorem dX14_reads_131 : decode cX14_reads 131 = .ok (.getfield 23, 3) := by decide +kernel
theorem dX14_reads_134 : decode cX14_reads 134 = .ok (.getfield 199, 3) := by decide +kernel
theorem dX14_reads_137 : decode cX14_reads 137 = .ok (.iload_n 3, 1) := by decide +kernel
theorem dX14_reads_138 : decode cX14_reads 138 = .ok (.iaload, 1) := by decide +kernel
theorem dX14_reads_139 : decode cX14_reads 139 = .ok (.if_icmp .eq 31, 3) := by decide +kernel
theorem dX14_reads_142 : decode cX14_reads 142 = .ok (.iload_n 2, 1) := by decide +kernel
theorem dX14_reads_143 : decode cX14_reads 143 = .ok (.iconst (-1), 1) := by decide +kernel
theorem dX14_reads_144 : decode cX14_reads 144 = .ok (.if_icmp .eq 16, 3) := by decide +kernel
theorem dX14_reads_147 : decode cX14_reads 147 = .ok (.aload_n 0, 1) := by decide +kernel
theorem dX14_reads_148 : decode cX14_reads 148 = .ok (.getfield 23, 3) := by decide +kernel
theorem dX14_reads_151 : decode cX14_reads 151 = .ok (.getfield 202, 3) := by decide +kernel
theorem dX14_reads_154 : decode cX14_reads 154 = .ok (.iload_n 3, 1) := by decide +kernel
theorem dX14_reads_155 : decode cX14_reads 155 = .ok (.iaload, 1) := by decide +kernel
theorem dX14_reads_156 : decode cX14_reads 156 = .ok (.iload_n 2, 1) := by decide +kernel
theorem dX14_reads_157 : decode cX14_reads 157 = .ok (.if_icmp .ge 13, 3) := by decide +kernel
theorem dX14_reads_160 : decode cX14_reads 160 = .ok (.aload_n 0, 1) := by decide +kernel
theorem dX14_reads_161 : decode cX14_reads 161 = .ok (.getfield 23, 3) := by decide +kernel
theorem dX14_reads_164 : decode cX14_reads 164 = .ok (.getfield 202, 3) := by decide +kernel
theorem dX14_reads_167 : decode cX14_reads 167 = .ok (.iload_n 3, 1) := by decide +kernel
theorem dX14_reads_168 : decode cX14_reads 168 = .ok (.iaload, 1) := by decide +kernel
theorem dX14_reads_169 : decode cX14_reads 169 = .ok (.istore_n 2, 1) := by decide +kernel
theorem dX14_reads_170 : decode cX14_reads 170 = .ok (.aload_n 0, 1) := by decide +kernel
theorem dX14_reads_171 : decode cX14_reads 171 = .ok (.getfield 23, 3) := by decide +kernel
theorem dX14_reads_174 : decode cX14_reads 174 = .ok (.getfield 205, 3) := by decide +kernel
theorem dX14_reads_177 : decode cX14_reads 177 = .ok (.iload_n 3, 1) := by decide +kernel
theorem dX14_reads_178 : decode cX14_reads 178 = .ok (.iload 4, 2) := by decide +kernel
theorem dX14_reads_180 : decode cX14_reads 180 = .ok (.iastore, 1) := by decide +kernel
theorem dX14_reads_181 : decode cX14_reads 181 = .ok (.iinc 3 1, 3) := by decide +kernel
theorem dX14_reads_184 : decode cX14_reads 184 = .ok (.goto (-115), 3) := by decide +kernel
theorem dX14_reads_187 : decode cX14_reads 187 = .ok (.iload_n 2, 1) := by decide +kernel
theorem dX14_reads_188 : decode cX14_reads 188 = .ok (.iconst (-1), 1) := by decide +kernel
theorem dX14_reads_189 : decode cX14_reads 189 = .ok (.if_icmp .eq 10, 3) := by decide +kernel
theorem dX14_reads_192 : decode cX14_reads 192 = .ok (.aload_n 0, 1) := by decide +kernel
theorem dX14_reads_193 : decode cX14_reads 193 = .ok (.iconst 4, 1) := by decide +kernel
theorem dX14_reads_194 : decode cX14_reads 194 = .ok (.iload_n 2, 1) := by decide +kernel
theorem dX14_reads_195 : decode cX14_reads 195 = .ok (.invokevirtual 144, 3) := by decide +kernel
theorem dX14_reads_198 : decode cX14_reads 198 = .ok (.athrow, 1) := by decide +kernel
theorem dX14_reads_199 : decode cX14_reads 199 = .ok (.return_, 1) := by decide +kernel
theorem dX14_readFunction_0 : decode cX14_readFunction 0 = .ok (.aload_n 0, 1) := by decide +kernel
theorem dX14_readFunction_1 : decode cX14_readFunction 1 = .ok (.ldc 152, 2) := by decide +kernel
theorem dX14_readFunction_3 : decode cX14_readFunction 3 = .ok (.invokevirtual 154, 3) := by decide +kernel
theorem dX14_readFunction_6 : decode cX14_readFunction 6 = .ok (.ifCond .ne 13, 3) := by decide +kernel
theorem dX14_readFunction_9 : decode cX14_readFunction 9 = .ok (.aload_n 0, 1) := by decide +kernel
theorem dX14_readFunction_10 : decode cX14_readFunction 10 = .ok (.iconst 1, 1) := by decide +kernel
theorem dX14_readFunction_11 : decode cX14_readFunction 11 = .ok (.aload_n 0, 1) := by decide +kernel
theorem dX14_readFunction_12 : decode cX14_readFunction 12 = .ok (.getfield 110, 3) := by decide +kernel
theorem dX14_readFunction_15 : decode cX14_readFunction 15 = .ok (.invokevirtual 144, 3) := by decide +kernel
theorem dX14_readFunction_18 : decode cX14_readFunction 18 = .ok (.athrow, 1) := by decide +kernel
theorem dX14_readFunction_19 : decode cX14_readFunction 19 = .ok (.aload_n 0, 1) := by decide +kernel
theorem dX14_readFunction_20 : decode cX14_readFunction 20 = .ok (.getfield 23, 3) := by decide +kernel
theorem dX14_readFunction_23 : decode cX14_readFunction 23 = .ok (.getfield 168, 3) := by decide +kernel
theorem dX14_readFunction_26 : decode cX14_readFunction 26 = .ok (.bipush 10, 2) := by decide +kernel
theorem dX14_readFunction_28 : decode cX14_readFunction 28 = .ok (.if_icmp .ne 13, 3) := by decide +kernel
theorem dX14_readFunction_31 : decode cX14_readFunction 31 = .ok (.aload_n 0, 1) := by decide +kernel
theorem dX14_readFunction_32 : decode cX14_readFunction 32 = .ok (.iconst 3, 1) := by decide +kernel
theorem dX14_readFunction_33 : decode cX14_readFunction 33 = .ok (.aload_n 0, 1) := by decide +kernel
theorem dX14_readFunction_34 : decode cX14_readFunction 34 = .ok (.getfield 110, 3) := by decide +kernel
theorem dX14_readFunction_37 : decode cX14_readFunction 37 = .ok (.invokevirtual 144, 3) := by decide +kernel
theorem dX14_readFunction_40 : decode cX14_readFunction 40 = .ok (.athrow, 1) := by decide +kernel
theorem dX14_readFunction_41 : decode cX14_readFunction 41 = .ok (.aload_n 0, 1) := by decide +kernel
theorem dX14_readFunction_42 : decode cX14_readFunction 42 = .ok (.getfield 23, 3) := by decide +kernel
theorem dX14_readFunction_45 : decode cX14_readFunction 45 = .ok (.getfield 168, 3) := by decide +kernel
theorem dX14_readFunction_48 : decode cX14_readFunction 48 = .ok (.istore_n 1, 1) := by decide +kernel
theorem dX14_readFunction_49 : decode cX14_readFunction 49 = .ok (.aload_n 0, 1) := by decide +kernel
theorem dX14_readFunction_50 : decode cX14_readFunction 50 = .ok (.getfield 23, 3) := by decide +kernel
theorem dX14_readFunction_53 : decode cX14_readFunction 53 = .ok (.getfield 208, 3) := by decide +kernel
theorem dX14_readFunction_56 : decode cX14_readFunction 56 = .ok (.iload_n 1, 1) := by decide +kernel
theorem dX14_readFunction_57 : decode cX14_readFunction 57 = .ok (.aload_n 0, 1) := by decide +kernel
theorem dX14_readFunction_58 : decode cX14_readFunction 58 = .ok (.getfield 110, 3) := by decide +kernel
theorem dX14_readFunction_61 : decode cX14_readFunction 61 = .ok (.iastore, 1) := by decide +kernel
theorem dX14_readFunction_62 : decode cX14_readFunction 62 = .ok (.aload_n 0, 1) := by decide +kernel
theorem dX14_readFunction_63 : decode cX14_readFunction 63 = .ok (.invokevirtual 147, 3) := by decide +kernel
theorem dX14_readFunction_66 : decode cX14_readFunction 66 = .ok (.aload_n 0, 1) := by decide +kernel
theorem dX14_readFunction_67 : decode cX14_readFunction 67 = .ok (.invokevirtual 211, 3) := by decide +kernel
theorem dX14_readFunction_70 : decode cX14_readFunction 70 = .ok (.ifCond .ne 13, 3) := by decide +kernel
theorem dX14_readFunction_73 : decode cX14_readFunction 73 = .ok (.aload_n 0, 1) := by decide +kernel
theorem dX14_readFunction_74 : decode cX14_readFunction 74 = .ok (.iconst 1, 1) := by decide +kernel
theorem dX14_readFunction_75 : decode cX14_readFunction 75 = .ok (.aload_n 0, 1) := by decide +kernel
theorem dX14_readFunction_76 : decode cX14_readFunction 76 = .ok (.getfield 110, 3) := by decide +kernel
theorem dX14_readFunction_79 : decode cX14_readFunction 79 = .ok (.invokevirtual 144, 3) := by decide +kernel
theorem dX14_readFunction_82 : decode cX14_readFunction 82 = .ok (.athrow, 1) := by decide +kernel
theorem dX14_readFunction_83 : decode cX14_readFunction 83 = .ok (.aload_n 0, 1) := by decide +kernel
theorem dX14_readFunction_84 : decode cX14_readFunction 84 = .ok (.getfield 23, 3) := by decide +kernel
theorem dX14_readFunction_87 : decode cX14_readFunction 87 = .ok (.aload_n 0, 1) := by decide +kernel
theorem dX14_readFunction_88 : decode cX14_readFunction 88 = .ok (.getfield 121, 3) := by decide +kernel
theorem dX14_readFunction_91 : decode cX14_readFunction 91 = .ok (.invokevirtual 192, 3) := by decide +kernel
theorem dX14_readFunction_94 : decode cX14_readFunction 94 = .ok (.iconst (-1), 1) := by decide +kernel
theorem dX14_readFunction_95 : decode cX14_readFunction 95 = .ok (.if_icmp .eq 13, 3) := by decide +kernel
theorem dX14_readFunction_98 : decode cX14_readFunction 98 = .ok (.aload_n 0, 1) := by decide +kernel
theorem dX14_readFunction_99 : decode cX14_readFunction 99 = .ok (.iconst 2, 1) := by decide +kernel
theorem dX14_readFunction_100 : decode cX14_readFunction 100 = .ok (.aload_n 0, 1) := by decide +kernel
theorem dX14_readFunction_101 : decode cX14_readFunction 101 = .ok (.getfield 110, 3) := by decide +kernel
theorem dX14_readFunction_104 : decode cX14_readFunction 104 = .ok (.invokevirtual 144, 3) := by decide +kernel
theorem dX14_readFunction_107 : decode cX14_readFunction 107 = .ok (.athrow, 1) := by decide +kernel
theorem dX14_readFunction_108 : decode cX14_readFunction 108 = .ok (.aload_n 0, 1) := by decide +kernel
theorem dX14_readFunction_109 : decode cX14_readFunction 109 = .ok (.getfield 23, 3) := by decide +kernel
theorem dX14_readFunction_112 : decode cX14_readFunction 112 = .ok (.getfield 215, 3) := by decide +kernel
theorem dX14_readFunction_115 : decode cX14_readFunction 115 = .ok (.iload_n 1, 1) := by decide +kernel
theorem dX14_readFunction_116 : decode cX14_readFunction 116 = .ok (.aload_n 0, 1) := by decide +kernel
theorem dX14_readFunction_117 : decode cX14_readFunction 117 = .ok (.getfield 121, 3) := by decide +kernel
theorem dX14_readFunction_120 : decode cX14_readFunction 120 = .ok (.lastore, 1) := by decide +kernel
theorem dX14_readFunction_121 : decode cX14_readFunction 121 = .ok (.aload_n 0, 1) := by decide +kernel
theorem dX14_readFunction_122 : decode cX14_readFunction 122 = .ok (.getfield 23, 3) := by decide +kernel
theorem dX14_readFunction_125 : decode cX14_readFunction 125 = .ok (.getfield 218, 3) := by decide +kernel
theorem dX14_readFunction_128 : decode cX14_readFunction 128 = .ok (.iload_n 1, 1) := by decide +kernel
theorem dX14_readFunction_129 : decode cX14_readFunction 129 = .ok (.aload_n 0, 1) := by decide +kernel
theorem dX14_readFunction_130 : decode cX14_readFunction 130 = .ok (.getfield 125, 3) := by decide +kernel
theorem dX14_readFunction_133 : decode cX14_readFunction 133 = .ok (.iastore, 1) := by decide +kernel
theorem dX14_readFunction_134 : decode cX14_readFunction 134 = .ok (.aload_n 0, 1) := by decide +kernel
theorem dX14_readFunction_135 : decode cX14_readFunction 135 = .ok (.getfield 23, 3) := by decide +kernel
theorem dX14_readFunction_138 : decode cX14_readFunction 138 = .ok (.dup, 1) := by decide +kernel
theorem dX14_readFunction_139 : decode cX14_readFunction 139 = .ok (.getfield 168, 3) := by decide +kernel
theorem dX14_readFunction_142 : decode cX14_readFunction 142 = .ok (.iconst 1, 1) := by decide +kernel
theorem dX14_readFunction_143 : decode cX14_readFunction 143 = .ok (.iadd, 1) := by decide +kernel
theorem dX14_readFunction_144 : decode cX14_readFunction 144 = .ok (.putfield 168, 3) := by decide +kernel
theorem dX14_readFunction_147 : decode cX14_readFunction 147 = .ok (.aload_n 0, 1) := by decide +kernel
theorem dX14_readFunction_148 : decode cX14_readFunction 148 = .ok (.invokevirtual 147, 3) := by decide +kernel
theorem dX14_readFunction_151 : decode cX14_readFunction 151 = .ok (.aload_n 0, 1) := by decide +kernel
theorem dX14_readFunction_152 : decode cX14_readFunction 152 = .ok (.bipush 40, 2) := by decide +kernel
theorem dX14_readFunction_154 : decode cX14_readFunction 154 = .ok (.invokevirtual 221, 3) := by decide +kernel
theorem dX14_readFunction_157 : decode cX14_readFunction 157 = .ok (.aload_n 0, 1) := by decide +kernel
theorem dX14_readFunction_158 : decode cX14_readFunction 158 = .ok (.getfield 23, 3) := by decide +kernel
theorem dX14_readFunction_161 : decode cX14_readFunction 161 = .ok (.getfield 196, 3) := by decide +kernel
theorem dX14_readFunction_164 : decode cX14_readFunction 164 = .ok (.iload_n 1, 1) := by decide +kernel
theorem dX14_readFunction_165 : decode cX14_readFunction 165 = .ok (.iconst 0, 1) := by decide +kernel
theorem dX14_readFunction_166 : decode cX14_readFunction 166 = .ok (.iastore, 1) := by decide +kernel
theorem dX14_readFunction_167 : decode cX14_readFunction 167 = .ok (.aload_n 0, 1) := by decide +kernel
theorem dX14_readFunction_168 : decode cX14_readFunction 168 = .ok (.bipush 41, 2) := by decide +kernel
theorem dX14_readFunction_170 : decode cX14_readFunction 170 = .ok (.invokevirtual 141, 3) := by decide +kernel
theorem dX14_readFunction_173 : decode cX14_readFunction 173 = .ok (.ifCond .ne 7, 3) := by decide +kernel
theorem dX14_readFunction_176 : decode cX14_readFunction 176 = .ok (.iconst 1, 1) := by decide +kernel
theorem dX14_readFunction_177 : decode cX14_readFunction 177 = .ok (.goto 4, 3) := by decide +kernel
theorem dX14_readFunction_180 : decode cX14_readFunction 180 = .ok (.iconst 0, 1) := by decide +kernel
theorem dX14_readFunction_181 : decode cX14_readFunction 181 = .ok (.istore_n 2, 1) := by decide +kernel
theorem dX14_readFunction_182 : decode cX14_readFunction 182 = .ok (.iload_n 2, 1) := by decide +kernel
theorem dX14_readFunction_183 : decode cX14_readFunction 183 = .ok (.ifCond .eq 159, 3) := by decide +kernel
theorem dX14_readFunction_186 : decode cX14_readFunction 186 = .ok (.aload_n 0, 1) := by decide +kernel
theorem dX14_readFunction_187 : decode cX14_readFunction 187 = .ok (.invokevirtual 225, 3) := by decide +kernel
theorem dX14_readFunction_190 : decode cX14_readFunction 190 = .ok (.ifCond .ne 13, 3) := by decide +kernel
theorem dX14_readFunction_193 : decode cX14_readFunction 193 = .ok (.aload_n 0, 1) := by decide +kernel
theorem dX14_readFunction_194 : decode cX14_readFunction 194 = .ok (.iconst 1, 1) := by decide +kernel
theorem dX14_readFunction_195 : decode cX14_readFunction 195 = .ok (.aload_n 0, 1) := by decide +kernel
theorem dX14_readFunction_196 : decode cX14_readFunction 196 = .ok (.getfield 110, 3) := by decide +kernel
theorem dX14_readFunction_199 : decode cX14_readFunction 199 = .ok (.invokevirtual 144, 3) := by decide +kernel
theorem dX14_readFunction_202 : decode cX14_readFunction 202 = .ok (.athrow, 1) := by decide +kernel
theorem dX14_readFunction_203 : decode cX14_readFunction 203 = .ok (.aload_n 0, 1) := by decide +kernel
theorem dX14_readFunction_204 : decode cX14_readFunction 204 = .ok (.getfield 121, 3) := by decide +kernel
theorem dX14_readFunction_207 : decode cX14_readFunction 207 = .ok (.l2i, 1) := by decide +kernel
theorem dX14_readFunction_208 : decode cX14_readFunction 208 = .ok (.iconst 1, 1) := by decide +kernel
theorem dX14_readFunction_209 : decode cX14_readFunction 209 = .ok (.isub, 1) := by decide +kernel
theorem dX14_readFunction_210 : decode cX14_readFunction 210 = .ok (.istore_n 3, 1) := by decide +kernel
theorem dX14_readFunction_211 : decode cX14_readFunction 211 = .ok (.iconst 0, 1) := by decide +kernel
theorem dX14_readFunction_212 : decode cX14_readFunction 212 = .ok (.istore 4, 2) := by decide +kernel
theorem dX14_readFunction_214 : decode cX14_readFunction 214 = .ok (.iload 4, 2) := by decide +kernel
theorem dX14_readFunction_216 : decode cX14_readFunction 216 = .ok (.aload_n 0, 1) := by decide +kernel
theorem dX14_readFunction_217 : decode cX14_readFunction 217 = .ok (.getfield 23, 3) := by decide +kernel
theorem dX14_readFunction_220 : decode cX14_readFunction 220 = .ok (.getfield 196, 3) := by decide +kernel
theorem dX14_readFunction_223 : decode cX14_readFunction 223 = .ok (.iload_n 1, 1) := by decide +kernel
theorem dX14_readFunction_224 : decode cX14_readFunction 224 = .ok (.iaload, 1) := by decide +kernel
theorem dX14_readFunction_225 : decode cX14_readFunction 225 = .ok (.if_icmp .ge 37, 3) := by decide +kernel
theorem dX14_readFunction_228 : decode cX14_readFunction 228 = .ok (.aload_n 0, 1) := by decide +kernel
theorem dX14_readFunction_229 : decode cX14_readFunction 229 = .ok (.getfield 23, 3) := by decide +kernel
theorem dX14_readFunction_232 : decode cX14_readFunction 232 = .ok (.getfield 228, 3) := by decide +kernel
theorem dX14_readFunction_235 : decode cX14_readFunction 235 = .ok (.iconst 3, 1) := by decide +kernel
theorem dX14_readFunction_236 : decode cX14_readFunction 236 = .ok (.iload_n 1, 1) := by decide +kernel
theorem dX14_readFunction_237 : decode cX14_readFunction 237 = .ok (.imul, 1) := by decide +kernel
theorem dX14_readFunction_238 : decode cX14_readFunction 238 = .ok (.iload 4, 2) := by decide +kernel
theorem dX14_readFunction_240 : decode cX14_readFunction 240 = .ok (.iadd, 1) := by decide +kernel
theorem dX14_readFunction_241 : decode cX14_readFunction 241 = .ok (.iaload, 1) := by decide +kernel
theorem dX14_readFunction_242 : decode cX14_readFunction 242 = .ok (.iload_n 3, 1) := by decide +kernel
theorem dX14_readFunction_243 : decode cX14_readFunction 243 = .ok (.if_icmp .ne 13, 3) := by decide +kernel
theorem dX14_readFunction_246 : decode cX14_readFunction 246 = .ok (.aload_n 0, 1) := by decide +kernel
theorem dX14_readFunction_247 : decode cX14_readFunction 247 = .ok (.iconst 2, 1) := by decide +kernel
theorem dX14_readFunction_248 : decode cX14_readFunction 248 = .ok (.aload_n 0, 1) := by decide +kernel
theorem dX14_readFunction_249 : decode cX14_readFunction 249 = .ok (.getfield 110, 3) := by decide +kernel
theorem dX14_readFunction_252 : decode cX14_readFunction 252 = .ok (.invokevirtual 144, 3) := by decide +kernel
theorem dX14_readFunction_255 : decode cX14_readFunction 255 = .ok (.athrow, 1) := by decide +kernel
theorem dX14_readFunction_256 : decode cX14_readFunction 256 = .ok (.iinc 4 1, 3) := by decide +kernel
theorem dX14_readFunction_259 : decode cX14_readFunction 259 = .ok (.goto (-45), 3) := by decide +kernel
theorem dX14_readFunction_262 : decode cX14_readFunction 262 = .ok (.aload_n 0, 1) := by decide +kernel
theorem dX14_readFunction_263 : decode cX14_readFunction 263 = .ok (.getfield 23, 3) := by decide +kernel
theorem dX14_readFunction_266 : decode cX14_readFunction 266 = .ok (.getfield 196, 3) := by decide +kernel
theorem dX14_readFunction_269 : decode cX14_readFunction 269 = .ok (.iload_n 1, 1) := by decide +kernel
theorem dX14_readFunction_270 : decode cX14_readFunction 270 = .ok (.iaload, 1) := by decide +kernel
theorem dX14_readFunction_271 : decode cX14_readFunction 271 = .ok (.iconst 3, 1) := by decide +kernel
theorem dX14_readFunction_272 : decode cX14_readFunction 272 = .ok (.if_icmp .ne 13, 3) := by decide +kernel
theorem dX14_readFunction_275 : decode cX14_readFunction 275 = .ok (.aload_n 0, 1) := by decide +kernel
theorem dX14_readFunction_276 : decode cX14_readFunction 276 = .ok (.iconst 3, 1) := by decide +kernel
theorem dX14_readFunction_277 : decode cX14_readFunction 277 = .ok (.aload_n 0, 1) := by decide +kernel
theorem dX14_readFunction_278 : decode cX14_readFunction 278 = .ok (.getfield 110, 3) := by decide +kernel
theorem dX14_readFunction_281 : decode cX14_readFunction 281 = .ok (.invokevirtual 144, 3) := by decide +kernel
theorem dX14_readFunction_284 : decode cX14_readFunction 284 = .ok (.athrow, 1) := by decide +kernel
theorem dX14_readFunction_285 : decode cX14_readFunction 285 = .ok (.aload_n 0, 1) := by decide +kernel
theorem dX14_readFunction_286 : decode cX14_readFunction 286 = .ok (.getfield 23, 3) := by decide +kernel
theorem dX14_readFunction_289 : decode cX14_readFunction 289 = .ok (.getfield 228, 3) := by decide +kernel
theorem dX14_readFunction_292 : decode cX14_readFunction 292 = .ok (.iconst 3, 1) := by decide +kernel
theorem dX14_readFunction_293 : decode cX14_readFunction 293 = .ok (.iload_n 1, 1) := by decide +kernel
theorem dX14_readFunction_294 : decode cX14_readFunction 294 = .ok (.imul, 1) := by decide +kernel
theorem dX14_readFunction_295 : decode cX14_readFunction 295 = .ok (.aload_n 0, 1) := by decide +kernel
theorem dX14_readFunction_296 : decode cX14_readFunction 296 = .ok (.getfield 23, 3) := by decide +kernel
theorem dX14_readFunction_299 : decode cX14_readFunction 299 = .ok (.getfield 196, 3) := by decide +kernel
theorem dX14_readFunction_302 : decode cX14_readFunction 302 = .ok (.iload_n 1, 1) := by decide +kernel
theorem dX14_readFunction_303 : decode cX14_readFunction 303 = .ok (.iaload, 1) := by decide +kernel
theorem dX14_readFunction_304 : decode cX14_readFunction 304 = .ok (.iadd, 1) := by decide +kernel
theorem dX14_readFunction_305 : decode cX14_readFunction 305 = .ok (.iload_n 3, 1) := by decide +kernel
theorem dX14_readFunction_306 : decode cX14_readFunction 306 = .ok (.iastore, 1) := by decide +kernel
theorem dX14_readFunction_307 : decode cX14_readFunction 307 = .ok (.aload_n 0, 1) := by decide +kernel
theorem dX14_readFunction_308 : decode cX14_readFunction 308 = .ok (.getfield 23, 3) := by decide +kernel
theorem dX14_readFunction_311 : decode cX14_readFunction 311 = .ok (.getfield 196, 3) := by decide +kernel
theorem dX14_readFunction_314 : decode cX14_readFunction 314 = .ok (.iload_n 1, 1) := by decide +kernel
theorem dX14_readFunction_315 : decode cX14_readFunction 315 = .ok (.dup2, 1) := by decide +kernel
theorem dX14_readFunction_316 : decode cX14_readFunction 316 = .ok (.iaload, 1) := by decide +kernel
theorem dX14_readFunction_317 : decode cX14_readFunction 317 = .ok (.iconst 1, 1) := by decide +kernel
theorem dX14_readFunction_318 : decode cX14_readFunction 318 = .ok (.iadd, 1) := by decide +kernel
theorem dX14_readFunction_319 : decode cX14_readFunction 319 = .ok (.iastore, 1) := by decide +kernel
theorem dX14_readFunction_320 : decode cX14_readFunction 320 = .ok (.aload_n 0, 1) := by decide +kernel
theorem dX14_readFunction_321 : decode cX14_readFunction 321 = .ok (.invokevirtual 147, 3) := by decide +kernel
theorem dX14_readFunction_324 : decode cX14_readFunction 324 = .ok (.aload_n 0, 1) := by decide +kernel
theorem dX14_readFunction_325 : decode cX14_readFunction 325 = .ok (.bipush 44, 2) := by decide +kernel
theorem dX14_readFunction_327 : decode cX14_readFunction 327 = .ok (.invokevirtual 141, 3) := by decide +kernel
theorem dX14_readFunction_330 : decode cX14_readFunction 330 = .ok (.istore_n 2, 1) := by decide +kernel
theorem dX14_readFunction_331 : decode cX14_readFunction 331 = .ok (.iload_n 2, 1) := by decide +kernel
theorem dX14_readFunction_332 : decode cX14_readFunction 332 = .ok (.ifCond .eq 7, 3) := by decide +kernel
theorem dX14_readFunction_335 : decode cX14_readFunction 335 = .ok (.aload_n 0, 1) := by decide +kernel
theorem dX14_readFunction_336 : decode cX14_readFunction 336 = .ok (.invokevirtual 147, 3) := by decide +kernel
theorem dX14_readFunction_339 : decode cX14_readFunction 339 = .ok (.goto (-157), 3) := by decide +kernel
theorem dX14_readFunction_342 : decode cX14_readFunction 342 = .ok (.aload_n 0, 1) := by decide +kernel
theorem dX14_readFunction_343 : decode cX14_readFunction 343 = .ok (.bipush 41, 2) := by decide +kernel
theorem dX14_readFunction_345 : decode cX14_readFunction 345 = .ok (.invokevirtual 221, 3) := by decide +kernel
theorem dX14_readFunction_348 : decode cX14_readFunction 348 = .ok (.aload_n 0, 1) := by decide +kernel
theorem dX14_readFunction_349 : decode cX14_readFunction 349 = .ok (.getfield 23, 3) := by decide +kernel
theorem dX14_readFunction_352 : decode cX14_readFunction 352 = .ok (.getfield 230, 3) := by decide +kernel
theorem dX14_readFunction_355 : decode cX14_readFunction 355 = .ok (.iload_n 1, 1) := by decide +kernel
theorem dX14_readFunction_356 : decode cX14_readFunction 356 = .ok (.aload_n 0, 1) := by decide +kernel
theorem dX14_readFunction_357 : decode cX14_readFunction 357 = .ok (.getfield 23, 3) := by decide +kernel
theorem dX14_readFunction_360 : decode cX14_readFunction 360 = .ok (.getfield 171, 3) := by decide +kernel
theorem dX14_readFunction_363 : decode cX14_readFunction 363 = .ok (.iastore, 1) := by decide +kernel
theorem dX14_readFunction_364 : decode cX14_readFunction 364 = .ok (.aload_n 0, 1) := by decide +kernel
theorem dX14_readFunction_365 : decode cX14_readFunction 365 = .ok (.iload_n 1, 1) := by decide +kernel
theorem dX14_readFunction_366 : decode cX14_readFunction 366 = .ok (.iconst (-1), 1) := by decide +kernel
theorem dX14_readFunction_367 : decode cX14_readFunction 367 = .ok (.invokevirtual 233, 3) := by decide +kernel
theorem dX14_readFunction_370 : decode cX14_readFunction 370 = .ok (.pop, 1) := by decide +kernel
theorem dX14_readFunction_371 : decode cX14_readFunction 371 = .ok (.aload_n 0, 1) := by decide +kernel
theorem dX14_readFunction_372 : decode cX14_readFunction 372 = .ok (.getfield 23, 3) := by decide +kernel
theorem dX14_readFunction_375 : decode cX14_readFunction 375 = .ok (.getfield 237, 3) := by decide +kernel
theorem dX14_readFunction_378 : decode cX14_readFunction 378 = .ok (.iload_n 1, 1) := by decide +kernel
theorem dX14_readFunction_379 : decode cX14_readFunction 379 = .ok (.aload_n 0, 1) := by decide +kernel
theorem dX14_readFunction_380 : decode cX14_readFunction 380 = .ok (.getfield 23, 3) := by decide +kernel
theorem dX14_readFunction_383 : decode cX14_readFunction 383 = .ok (.getfield 171, 3) := by decide +kernel
theorem dX14_readFunction_386 : decode cX14_readFunction 386 = .ok (.aload_n 0, 1) := by decide +kernel
theorem dX14_readFunction_387 : decode cX14_readFunction 387 = .ok (.getfield 23, 3) := by decide +kernel
theorem dX14_readFunction_390 : decode cX14_readFunction 390 = .ok (.getfield 230, 3) := by decide +kernel
theorem dX14_readFunction_393 : decode cX14_readFunction 393 = .ok (.iload_n 1, 1) := by decide +kernel
theorem dX14_readFunction_394 : decode cX14_readFunction 394 = .ok (.iaload, 1) := by decide +kernel
theorem dX14_readFunction_395 : decode cX14_readFunction 395 = .ok (.isub, 1) := by decide +kernel
theorem dX14_readFunction_396 : decode cX14_readFunction 396 = .ok (.iastore, 1) := by decide +kernel
theorem dX14_readFunction_397 : decode cX14_readFunction 397 = .ok (.return_, 1) := by decide +kernel
theorem dX14_readBlock_0 : decode cX14_readBlock 0 = .ok (.aload_n 0, 1) := by decide +kernel
theorem dX14_readBlock_1 : decode cX14_readBlock 1 = .ok (.bipush 123, 2) := by decide +kernel
theorem dX14_readBlock_3 : decode cX14_readBlock 3 = .ok (.invokevirtual 141, 3) := by decide +kernel
theorem dX14_readBlock_6 : decode cX14_readBlock 6 = .ok (.ifCond .ne 13, 3) := by decide +kernel
theorem dX14_readBlock_9 : decode cX14_readBlock 9 = .ok (.aload_n 0, 1) := by decide +kernel
theorem dX14_readBlock_10 : decode cX14_readBlock 10 = .ok (.iconst 1, 1) := by decide +kernel
theorem dX14_readBlock_11 : decode cX14_readBlock 11 = .ok (.aload_n 0, 1) := by decide +kernel
theorem dX14_readBlock_12 : decode cX14_readBlock 12 = .ok (.getfield 110, 3) := by decide +kernel
theorem dX14_readBlock_15 : decode cX14_readBlock 15 = .ok (.invokevirtual 144, 3) := by decide +kernel
theorem dX14_readBlock_18 : decode cX14_readBlock 18 = .ok (.athrow, 1) := by decide +kernel
theorem dX14_readBlock_19 : decode cX14_readBlock 19 = .ok (.aload_n 0, 1) := by decide +kernel
theorem dX14_readBlock_20 : decode cX14_readBlock 20 = .ok (.getfield 177, 3) := by decide +kernel
theorem dX14_readBlock_23 : decode cX14_readBlock 23 = .ok (.bipush 6, 2) := by decide +kernel
theorem dX14_readBlock_25 : decode cX14_readBlock 25 = .ok (.if_icmp .ne 13, 3) := by decide +kernel
theorem dX14_readBlock_28 : decode cX14_readBlock 28 = .ok (.aload_n 0, 1) := by decide +kernel
theorem dX14_readBlock_29 : decode cX14_readBlock 29 = .ok (.iconst 3, 1) := by decide +kernel
theorem dX14_readBlock_30 : decode cX14_readBlock 30 = .ok (.aload_n 0, 1) := by decide +kernel
theorem dX14_readBlock_31 : decode cX14_readBlock 31 = .ok (.getfield 110, 3) := by decide +kernel
theorem dX14_readBlock_34 : decode cX14_readBlock 34 = .ok (.invokevirtual 144, 3) := by decide +kernel
theorem dX14_readBlock_37 : decode cX14_readBlock 37 = .ok (.athrow, 1) := by decide +kernel
theorem dX14_readBlock_38 : decode cX14_readBlock 38 = .ok (.aload_n 0, 1) := by decide +kernel
theorem dX14_readBlock_39 : decode cX14_readBlock 39 = .ok (.dup, 1) := by decide +kernel
theorem dX14_readBlock_40 : decode cX14_readBlock 40 = .ok (.getfield 177, 3) := by decide +kernel
theorem dX14_readBlock_43 : decode cX14_readBlock 43 = .ok (.iconst 1, 1) := by decide +kernel
theorem dX14_readBlock_44 : decode cX14_readBlock 44 = .ok (.iadd, 1) := by decide +kernel
theorem dX14_readBlock_45 : decode cX14_readBlock 45 = .ok (.putfield 177, 3) := by decide +kernel
theorem dX14_readBlock_48 : decode cX14_readBlock 48 = .ok (.aload_n 0, 1) := by decide +kernel
theorem dX14_readBlock_49 : decode cX14_readBlock 49 = .ok (.invokevirtual 147, 3) := by decide +kernel
theorem dX14_readBlock_52 : decode cX14_readBlock 52 = .ok (.aload_n 0, 1) := by decide +kernel
theorem dX14_readBlock_53 : decode cX14_readBlock 53 = .ok (.getfield 23, 3) := by decide +kernel
theorem dX14_readBlock_56 : decode cX14_readBlock 56 = .ok (.getfield 171, 3) := by decide +kernel
theorem dX14_readBlock_59 : decode cX14_readBlock 59 = .ok (.istore_n 3, 1) := by decide +kernel
theorem dX14_readBlock_60 : decode cX14_readBlock 60 = .ok (.iconst (-1), 1) := by decide +kernel
theorem dX14_readBlock_61 : decode cX14_readBlock 61 = .ok (.istore 4, 2) := by decide +kernel
theorem dX14_readBlock_63 : decode cX14_readBlock 63 = .ok (.iconst 1, 1) := by decide +kernel
theorem dX14_readBlock_64 : decode cX14_readBlock 64 = .ok (.istore 5, 2) := by decide +kernel
theorem dX14_readBlock_66 : decode cX14_readBlock 66 = .ok (.iload 5, 2) := by decide +kernel
theorem dX14_readBlock_68 : decode cX14_readBlock 68 = .ok (.ifCond .eq 53, 3) := by decide +kernel
theorem dX14_readBlock_71 : decode cX14_readBlock 71 = .ok (.aload_n 0, 1) := by decide +kernel
theorem dX14_readBlock_72 : decode cX14_readBlock 72 = .ok (.iload_n 1, 1) := by decide +kernel
theorem dX14_readBlock_73 : decode cX14_readBlock 73 = .ok (.iload_n 2, 1) := by decide +kernel
theorem dX14_readBlock_74 : decode cX14_readBlock 74 = .ok (.invokevirtual 240, 3) := by decide +kernel
theorem dX14_readBlock_77 : decode cX14_readBlock 77 = .ok (.istore 6, 2) := by decide +kernel
theorem dX14_readBlock_79 : decode cX14_readBlock 79 = .ok (.iload 4, 2) := by decide +kernel
theorem dX14_readBlock_81 : decode cX14_readBlock 81 = .ok (.iconst (-1), 1) := by decide +kernel
theorem dX14_readBlock_82 : decode cX14_readBlock 82 = .ok (.if_icmp .eq 15, 3) := by decide +kernel
theorem dX14_readBlock_85 : decode cX14_readBlock 85 = .ok (.aload_n 0, 1) := by decide +kernel
theorem dX14_readBlock_86 : decode cX14_readBlock 86 = .ok (.getfield 23, 3) := by decide +kernel
theorem dX14_readBlock_89 : decode cX14_readBlock 89 = .ok (.getfield 243, 3) := by decide +kernel
theorem dX14_readBlock_92 : decode cX14_readBlock 92 = .ok (.iload 4, 2) := by decide +kernel
theorem dX14_readBlock_94 : decode cX14_readBlock 94 = .ok (.iload 6, 2) := by decide +kernel
theorem dX14_readBlock_96 : decode cX14_readBlock 96 = .ok (.iastore, 1) := by decide +kernel
theorem dX14_readBlock_97 : decode cX14_readBlock 97 = .ok (.iload 6, 2) := by decide +kernel
theorem dX14_readBlock_99 : decode cX14_readBlock 99 = .ok (.istore 4, 2) := by decide +kernel
theorem dX14_readBlock_101 : decode cX14_readBlock 101 = .ok (.aload_n 0, 1) := by decide +kernel
theorem dX14_readBlock_102 : decode cX14_readBlock 102 = .ok (.bipush 59, 2) := by decide +kernel
theorem dX14_readBlock_104 : decode cX14_readBlock 104 = .ok (.invokevirtual 141, 3) := by decide +kernel
theorem dX14_readBlock_107 : decode cX14_readBlock 107 = .ok (.istore 5, 2) := by decide +kernel
theorem dX14_readBlock_109 : decode cX14_readBlock 109 = .ok (.iload 5, 2) := by decide +kernel
theorem dX14_readBlock_111 : decode cX14_readBlock 111 = .ok (.ifCond .eq 7, 3) := by decide +kernel
theorem dX14_readBlock_114 : decode cX14_readBlock 114 = .ok (.aload_n 0, 1) := by decide +kernel
theorem dX14_readBlock_115 : decode cX14_readBlock 115 = .ok (.invokevirtual 147, 3) := by decide +kernel
theorem dX14_readBlock_118 : decode cX14_readBlock 118 = .ok (.goto (-52), 3) := by decide +kernel
theorem dX14_readBlock_121 : decode cX14_readBlock 121 = .ok (.aload_n 0, 1) := by decide +kernel
theorem dX14_readBlock_122 : decode cX14_readBlock 122 = .ok (.bipush 125, 2) := by decide +kernel
theorem dX14_readBlock_124 : decode cX14_readBlock 124 = .ok (.invokevirtual 141, 3) := by decide +kernel
theorem dX14_readBlock_127 : decode cX14_readBlock 127 = .ok (.ifCond .ne 13, 3) := by decide +kernel
theorem dX14_readBlock_130 : decode cX14_readBlock 130 = .ok (.aload_n 0, 1) := by decide +kernel
theorem dX14_readBlock_131 : decode cX14_readBlock 131 = .ok (.iconst 1, 1) := by decide +kernel
theorem dX14_readBlock_132 : decode cX14_readBlock 132 = .ok (.aload_n 0, 1) := by decide +kernel
theorem dX14_readBlock_133 : decode cX14_readBlock 133 = .ok (.getfield 110, 3) := by decide +kernel
theorem dX14_readBlock_136 : decode cX14_readBlock 136 = .ok (.invokevirtual 144, 3) := by decide +kernel
theorem dX14_readBlock_139 : decode cX14_readBlock 139 = .ok (.athrow, 1) := by decide +kernel
theorem dX14_readBlock_140 : decode cX14_readBlock 140 = .ok (.aload_n 0, 1) := by decide +kernel
theorem dX14_readBlock_141 : decode cX14_readBlock 141 = .ok (.dup, 1) := by decide +kernel
theorem dX14_readBlock_142 : decode cX14_readBlock 142 = .ok (.getfield 177, 3) := by decide +kernel
theorem dX14_readBlock_145 : decode cX14_readBlock 145 = .ok (.iconst 1, 1) := by decide +kernel
theorem dX14_readBlock_146 : decode cX14_readBlock 146 = .ok (.isub, 1) := by decide +kernel
theorem dX14_readBlock_147 : decode cX14_readBlock 147 = .ok (.putfield 177, 3) := by decide +kernel
theorem dX14_readBlock_150 : decode cX14_readBlock 150 = .ok (.aload_n 0, 1) := by decide +kernel
theorem dX14_readBlock_151 : decode cX14_readBlock 151 = .ok (.getfield 23, 3) := by decide +kernel
theorem dX14_readBlock_154 : decode cX14_readBlock 154 = .ok (.getfield 245, 3) := by decide +kernel
theorem dX14_readBlock_157 : decode cX14_readBlock 157 = .ok (.iload_n 1, 1) := by decide +kernel
theorem dX14_readBlock_158 : decode cX14_readBlock 158 = .ok (.aload_n 0, 1) := by decide +kernel
theorem dX14_readBlock_159 : decode cX14_readBlock 159 = .ok (.getfield 103, 3) := by decide +kernel
theorem dX14_readBlock_162 : decode cX14_readBlock 162 = .ok (.iastore, 1) := by decide +kernel
theorem dX14_readBlock_163 : decode cX14_readBlock 163 = .ok (.aload_n 0, 1) := by decide +kernel
theorem dX14_readBlock_164 : decode cX14_readBlock 164 = .ok (.invokevirtual 147, 3) := by decide +kernel
theorem dX14_readBlock_167 : decode cX14_readBlock 167 = .ok (.iload_n 3, 1) := by decide +kernel
theorem dX14_readBlock_168 : decode cX14_readBlock 168 = .ok (.ireturn, 1) := by decide +kernel
theorem dX14_readLine_0 : decode cX14_readLine 0 = .ok (.aload_n 0, 1) := by decide +kernel
theorem dX14_readLine_1 : decode cX14_readLine 1 = .ok (.invokevirtual 225, 3) := by decide +kernel
theorem dX14_readLine_4 : decode cX14_readLine 4 = .ok (.ifCond .eq 7, 3) := by decide +kernel
theorem dX14_readLine_7 : decode cX14_readLine 7 = .ok (.iconst 0, 1) := by decide +kernel
theorem dX14_readLine_8 : decode cX14_readLine 8 = .ok (.goto 56, 3) := by decide +kernel
theorem dX14_readLine_11 : decode cX14_readLine 11 = .ok (.aload_n 0, 1) := by decide +kernel
theorem dX14_readLine_12 : decode cX14_readLine 12 = .ok (.ldc 158, 2) := by decide +kernel
theorem dX14_readLine_14 : decode cX14_readLine 14 = .ok (.invokevirtual 154, 3) := by decide +kernel
theorem dX14_readLine_17 : decode cX14_readLine 17 = .ok (.ifCond .eq 7, 3) := by decide +kernel
theorem dX14_readLine_20 : decode cX14_readLine 20 = .ok (.iconst 1, 1) := by decide +kernel
theorem dX14_readLine_21 : decode cX14_readLine 21 = .ok (.goto 43, 3) := by decide +kernel
theorem dX14_readLine_24 : decode cX14_readLine 24 = .ok (.aload_n 0, 1) := by decide +kernel
theorem dX14_readLine_25 : decode cX14_readLine 25 = .ok (.ldc 160, 2) := by decide +kernel
theorem dX14_readLine_27 : decode cX14_readLine 27 = .ok (.invokevirtual 154, 3) := by decide +kernel
theorem dX14_readLine_30 : decode cX14_readLine 30 = .ok (.ifCond .eq 7, 3) := by decide +kernel
theorem dX14_readLine_33 : decode cX14_readLine 33 = .ok (.iconst 2, 1) := by decide +kernel
theorem dX14_readLine_34 : decode cX14_readLine 34 = .ok (.goto 30, 3) := by decide +kernel
theorem dX14_readLine_37 : decode cX14_readLine 37 = .ok (.aload_n 0, 1) := by decide +kernel
theorem dX14_readLine_38 : decode cX14_readLine 38 = .ok (.ldc 162, 2) := by decide +kernel
theorem dX14_readLine_40 : decode cX14_readLine 40 = .ok (.invokevirtual 154, 3) := by decide +kernel
theorem dX14_readLine_43 : decode cX14_readLine 43 = .ok (.ifCond .eq 7, 3) := by decide +kernel
theorem dX14_readLine_46 : decode cX14_readLine 46 = .ok (.iconst 3, 1) := by decide +kernel
theorem dX14_readLine_47 : decode cX14_readLine 47 = .ok (.goto 17, 3) := by decide +kernel
theorem dX14_readLine_50 : decode cX14_readLine 50 = .ok (.aload_n 0, 1) := by decide +kernel
theorem dX14_readLine_51 : decode cX14_readLine 51 = .ok (.ldc 166, 2) := by decide +kernel
theorem dX14_readLine_53 : decode cX14_readLine 53 = .ok (.invokevirtual 154, 3) := by decide +kernel
theorem dX14_readLine_56 : decode cX14_readLine 56 = .ok (.ifCond .eq 7, 3) := by decide +kernel
theorem dX14_readLine_59 : decode cX14_readLine 59 = .ok (.iconst 4, 1) := by decide +kernel
theorem dX14_readLine_60 : decode cX14_readLine 60 = .ok (.goto 4, 3) := by decide +kernel
theorem dX14_readLine_63 : decode cX14_readLine 63 = .ok (.iconst (-1), 1) := by decide +kernel
theorem dX14_readLine_64 : decode cX14_readLine 64 = .ok (.istore_n 3, 1) := by decide +kernel
theorem dX14_readLine_65 : decode cX14_readLine 65 = .ok (.iload_n 3, 1) := by decide +kernel
theorem dX14_readLine_66 : decode cX14_readLine 66 = .ok (.iconst (-1), 1) := by decide +kernel
theorem dX14_readLine_67 : decode cX14_readLine 67 = .ok (.if_icmp .ne 13, 3) := by decide +kernel
theorem dX14_readLine_70 : decode cX14_readLine 70 = .ok (.aload_n 0, 1) := by decide +kernel
theorem dX14_readLine_71 : decode cX14_readLine 71 = .ok (.iconst 1, 1) := by decide +kernel
theorem dX14_readLine_72 : decode cX14_readLine 72 = .ok (.aload_n 0, 1) := by decide +kernel
theorem dX14_readLine_73 : decode cX14_readLine 73 = .ok (.getfield 110, 3) := by decide +kernel
theorem dX14_readLine_76 : decode cX14_readLine 76 = .ok (.invokevirtual 144, 3) := by decide +kernel
theorem dX14_readLine_79 : decode cX14_readLine 79 = .ok (.athrow, 1) := by decide +kernel
theorem dX14_readLine_80 : decode cX14_readLine 80 = .ok (.aload_n 0, 1) := by decide +kernel
theorem dX14_readLine_81 : decode cX14_readLine 81 = .ok (.getfield 23, 3) := by decide +kernel
theorem dX14_readLine_84 : decode cX14_readLine 84 = .ok (.getfield 171, 3) := by decide +kernel
theorem dX14_readLine_87 : decode cX14_readLine 87 = .ok (.bipush 60, 2) := by decide +kernel
theorem dX14_readLine_89 : decode cX14_readLine 89 = .ok (.if_icmp .ne 13, 3) := by decide +kernel
theorem dX14_readLine_92 : decode cX14_readLine 92 = .ok (.aload_n 0, 1) := by decide +kernel
theorem dX14_readLine_93 : decode cX14_readLine 93 = .ok (.iconst 3, 1) := by decide +kernel
theorem dX14_readLine_94 : decode cX14_readLine 94 = .ok (.aload_n 0, 1) := by decide +kernel
theorem dX14_readLine_95 : decode cX14_readLine 95 = .ok (.getfield 110, 3) := by decide +kernel
theorem dX14_readLine_98 : decode cX14_readLine 98 = .ok (.invokevirtual 144, 3) := by decide +kernel
theorem dX14_readLine_101 : decode cX14_readLine 101 = .ok (.athrow, 1) := by decide +kernel
theorem dX14_readLine_102 : decode cX14_readLine 102 = .ok (.aload_n 0, 1) := by decide +kernel
theorem dX14_readLine_103 : decode cX14_readLine 103 = .ok (.getfield 23, 3) := by decide +kernel
theorem dX14_readLine_106 : decode cX14_readLine 106 = .ok (.getfield 171, 3) := by decide +kernel
theorem dX14_readLine_109 : decode cX14_readLine 109 = .ok (.istore 4, 2) := by decide +kernel
theorem dX14_readLine_111 : decode cX14_readLine 111 = .ok (.aload_n 0, 1) := by decide +kernel
theorem dX14_readLine_112 : decode cX14_readLine 112 = .ok (.getfield 23, 3) := by decide +kernel
theorem dX14_readLine_115 : decode cX14_readLine 115 = .ok (.dup, 1) := by decide +kernel
theorem dX14_readLine_116 : decode cX14_readLine 116 = .ok (.getfield 171, 3) := by decide +kernel
theorem dX14_readLine_119 : decode cX14_readLine 119 = .ok (.iconst 1, 1) := by decide +kernel
theorem dX14_readLine_120 : decode cX14_readLine 120 = .ok (.iadd, 1) := by decide +kernel
theorem dX14_readLine_121 : decode cX14_readLine 121 = .ok (.putfield 171, 3) := by decide +kernel
theorem dX14_readLine_124 : decode cX14_readLine 124 = .ok (.aload_n 0, 1) := by decide +kernel
theorem dX14_readLine_125 : decode cX14_readLine 125 = .ok (.getfield 23, 3) := by decide +kernel
theorem dX14_readLine_128 : decode cX14_readLine 128 = .ok (.getfield 248, 3) := by decide +kernel
theorem dX14_readLine_131 : decode cX14_readLine 131 = .ok (.iload 4, 2) := by decide +kernel
theorem dX14_readLine_133 : decode cX14_readLine 133 = .ok (.iload_n 3, 1) := by decide +kernel
theorem dX14_readLine_134 : decode cX14_readLine 134 = .ok (.iastore, 1) := by decide +kernel
theorem dX14_readLine_135 : decode cX14_readLine 135 = .ok (.aload_n 0, 1) := by decide +kernel
theorem dX14_readLine_136 : decode cX14_readLine 136 = .ok (.getfield 23, 3) := by decide +kernel
theorem dX14_readLine_139 : decode cX14_readLine 139 = .ok (.getfield 250, 3) := by decide +kernel
theorem dX14_readLine_142 : decode cX14_readLine 142 = .ok (.iload 4, 2) := by decide +kernel
theorem dX14_readLine_144 : decode cX14_readLine 144 = .ok (.iload_n 1, 1) := by decide +kernel
theorem dX14_readLine_145 : decode cX14_readLine 145 = .ok (.iastore, 1) := by decide +kernel
theorem dX14_readLine_146 : decode cX14_readLine 146 = .ok (.aload_n 0, 1) := by decide +kernel
theorem dX14_readLine_147 : decode cX14_readLine 147 = .ok (.getfield 23, 3) := by decide +kernel
theorem dX14_readLine_150 : decode cX14_readLine 150 = .ok (.getfield 253, 3) := by decide +kernel
theorem dX14_readLine_153 : decode cX14_readLine 153 = .ok (.iload 4, 2) := by decide +kernel
theorem dX14_readLine_155 : decode cX14_readLine 155 = .ok (.aload_n 0, 1) := by decide +kernel
theorem dX14_readLine_156 : decode cX14_readLine 156 = .ok (.getfield 110, 3) := by decide +kernel
theorem dX14_readLine_159 : decode cX14_readLine 159 = .ok (.iastore, 1) := by decide +kernel
theorem dX14_readLine_160 : decode cX14_readLine 160 = .ok (.aload_n 0, 1) := by decide +kernel
theorem dX14_readLine_161 : decode cX14_readLine 161 = .ok (.getfield 23, 3) := by decide +kernel
theorem dX14_readLine_164 : decode cX14_readLine 164 = .ok (.getfield 255, 3) := by decide +kernel
theorem dX14_readLine_167 : decode cX14_readLine 167 = .ok (.iload 4, 2) := by decide +kernel
theorem dX14_readLine_169 : decode cX14_readLine 169 = .ok (.aload_n 0, 1) := by decide +kernel
theorem dX14_readLine_170 : decode cX14_readLine 170 = .ok (.getfield 177, 3) := by decide +kernel
theorem dX14_readLine_173 : decode cX14_readLine 173 = .ok (.iastore, 1) := by decide +kernel
theorem dX14_readLine_174 : decode cX14_readLine 174 = .ok (.aload_n 0, 1) := by decide +kernel
theorem dX14_readLine_175 : decode cX14_readLine 175 = .ok (.getfield 23, 3) := by decide +kernel
theorem dX14_readLine_178 : decode cX14_readLine 178 = .ok (.getfield 258, 3) := by decide +kernel
theorem dX14_readLine_181 : decode cX14_readLine 181 = .ok (.iload 4, 2) := by decide +kernel
theorem dX14_readLine_183 : decode cX14_readLine 183 = .ok (.iload_n 2, 1) := by decide +kernel
theorem dX14_readLine_184 : decode cX14_readLine 184 = .ok (.iastore, 1) := by decide +kernel
theorem dX14_readLine_185 : decode cX14_readLine 185 = .ok (.aload_n 0, 1) := by decide +kernel
theorem dX14_readLine_186 : decode cX14_readLine 186 = .ok (.getfield 23, 3) := by decide +kernel
theorem dX14_readLine_189 : decode cX14_readLine 189 = .ok (.getfield 243, 3) := by decide +kernel
theorem dX14_readLine_192 : decode cX14_readLine 192 = .ok (.iload 4, 2) := by decide +kernel
theorem dX14_readLine_194 : decode cX14_readLine 194 = .ok (.iconst (-1), 1) := by decide +kernel
theorem dX14_readLine_195 : decode cX14_readLine 195 = .ok (.iastore, 1) := by decide +kernel
theorem dX14_readLine_196 : decode cX14_readLine 196 = .ok (.aload_n 0, 1) := by decide +kernel
theorem dX14_readLine_197 : decode cX14_readLine 197 = .ok (.getfield 23, 3) := by decide +kernel
theorem dX14_readLine_200 : decode cX14_readLine 200 = .ok (.getfield 261, 3) := by decide +kernel
theorem dX14_readLine_203 : decode cX14_readLine 203 = .ok (.iload 4, 2) := by decide +kernel
theorem dX14_readLine_205 : decode cX14_readLine 205 = .ok (.iconst (-1), 1) := by decide +kernel
theorem dX14_readLine_206 : decode cX14_readLine 206 = .ok (.iastore, 1) := by decide +kernel
theorem dX14_readLine_207 : decode cX14_readLine 207 = .ok (.aload_n 0, 1) := by decide +kernel
theorem dX14_readLine_208 : decode cX14_readLine 208 = .ok (.getfield 23, 3) := by decide +kernel
theorem dX14_readLine_211 : decode cX14_readLine 211 = .ok (.getfield 264, 3) := by decide +kernel
theorem dX14_readLine_214 : decode cX14_readLine 214 = .ok (.iload 4, 2) := by decide +kernel
theorem dX14_readLine_216 : decode cX14_readLine 216 = .ok (.iconst (-1), 1) := by decide +kernel
theorem dX14_readLine_217 : decode cX14_readLine 217 = .ok (.iastore, 1) := by decide +kernel
theorem dX14_readLine_218 : decode cX14_readLine 218 = .ok (.aload_n 0, 1) := by decide +kernel
theorem dX14_readLine_219 : decode cX14_readLine 219 = .ok (.getfield 23, 3) := by decide +kernel
theorem dX14_readLine_222 : decode cX14_readLine 222 = .ok (.getfield 267, 3) := by decide +kernel
theorem dX14_readLine_225 : decode cX14_readLine 225 = .ok (.iload 4, 2) := by decide +kernel
theorem dX14_readLine_227 : decode cX14_readLine 227 = .ok (.iload_n 3, 1) := by decide +kernel
theorem dX14_readLine_228 : decode cX14_readLine 228 = .ok (.ifCond .ne 13, 3) := by decide +kernel
theorem dX14_readLine_231 : decode cX14_readLine 231 = .ok (.aload_n 0, 1) := by decide +kernel
theorem dX14_readLine_232 : decode cX14_readLine 232 = .ok (.getfield 121, 3) := by decide +kernel
theorem dX14_readLine_235 : decode cX14_readLine 235 = .ok (.l2i, 1) := by decide +kernel
theorem dX14_readLine_236 : decode cX14_readLine 236 = .ok (.iconst 1, 1) := by decide +kernel
theorem dX14_readLine_237 : decode cX14_readLine 237 = .ok (.isub, 1) := by decide +kernel
theorem dX14_readLine_238 : decode cX14_readLine 238 = .ok (.goto 4, 3) := by decide +kernel
theorem dX14_readLine_241 : decode cX14_readLine 241 = .ok (.iconst (-1), 1) := by decide +kernel
theorem dX14_readLine_242 : decode cX14_readLine 242 = .ok (.iastore, 1) := by decide +kernel
theorem dX14_readLine_243 : decode cX14_readLine 243 = .ok (.aload_n 0, 1) := by decide +kernel
theorem dX14_readLine_244 : decode cX14_readLine 244 = .ok (.invokevirtual 147, 3) := by decide +kernel
theorem dX14_readLine_247 : decode cX14_readLine 247 = .ok (.iload_n 3, 1) := by decide +kernel
theorem dX14_readLine_248 : decode cX14_readLine 248 = .ok (.ifCond .ne 9, 3) := by decide +kernel
theorem dX14_readLine_251 : decode cX14_readLine 251 = .ok (.aload_n 0, 1) := by decide +kernel
theorem dX14_readLine_252 : decode cX14_readLine 252 = .ok (.bipush 61, 2) := by decide +kernel
theorem dX14_readLine_254 : decode cX14_readLine 254 = .ok (.invokevirtual 221, 3) := by decide +kernel
theorem dX14_readLine_257 : decode cX14_readLine 257 = .ok (.aload_n 0, 1) := by decide +kernel
theorem dX14_readLine_258 : decode cX14_readLine 258 = .ok (.getfield 23, 3) := by decide +kernel
theorem dX14_readLine_261 : decode cX14_readLine 261 = .ok (.getfield 270, 3) := by decide +kernel
theorem dX14_readLine_264 : decode cX14_readLine 264 = .ok (.iload 4, 2) := by decide +kernel
theorem dX14_readLine_266 : decode cX14_readLine 266 = .ok (.aload_n 0, 1) := by decide +kernel
theorem dX14_readLine_267 : decode cX14_readLine 267 = .ok (.getfield 23, 3) := by decide +kernel
theorem dX14_readLine_270 : decode cX14_readLine 270 = .ok (.getfield 174, 3) := by decide +kernel
theorem dX14_readLine_273 : decode cX14_readLine 273 = .ok (.iastore, 1) := by decide +kernel
theorem dX14_readLine_274 : decode cX14_readLine 274 = .ok (.aload_n 0, 1) := by decide +kernel
theorem dX14_readLine_275 : decode cX14_readLine 275 = .ok (.invokevirtual 273, 3) := by decide +kernel
theorem dX14_readLine_278 : decode cX14_readLine 278 = .ok (.iload_n 3, 1) := by decide +kernel
theorem dX14_readLine_279 : decode cX14_readLine 279 = .ok (.iconst 3, 1) := by decide +kernel
theorem dX14_readLine_280 : decode cX14_readLine 280 = .ok (.if_icmp .lt 82, 3) := by decide +kernel
theorem dX14_readLine_283 : decode cX14_readLine 283 = .ok (.aload_n 0, 1) := by decide +kernel
theorem dX14_readLine_284 : decode cX14_readLine 284 = .ok (.bipush 60, 2) := by decide +kernel
theorem dX14_readLine_286 : decode cX14_readLine 286 = .ok (.invokevirtual 141, 3) := by decide +kernel
theorem dX14_readLine_289 : decode cX14_readLine 289 = .ok (.ifCond .eq 8, 3) := by decide +kernel
theorem dX14_readLine_292 : decode cX14_readLine 292 = .ok (.bipush 6, 2) := by decide +kernel
theorem dX14_readLine_294 : decode cX14_readLine 294 = .ok (.goto 32, 3) := by decide +kernel
theorem dX14_readLine_297 : decode cX14_readLine 297 = .ok (.aload_n 0, 1) := by decide +kernel
theorem dX14_readLine_298 : decode cX14_readLine 298 = .ok (.bipush 62, 2) := by decide +kernel
theorem dX14_readLine_300 : decode cX14_readLine 300 = .ok (.invokevirtual 141, 3) := by decide +kernel
theorem dX14_readLine_303 : decode cX14_readLine 303 = .ok (.ifCond .eq 8, 3) := by decide +kernel
theorem dX14_readLine_306 : decode cX14_readLine 306 = .ok (.bipush 7, 2) := by decide +kernel
theorem dX14_readLine_308 : decode cX14_readLine 308 = .ok (.goto 18, 3) := by decide +kernel
theorem dX14_readLine_311 : decode cX14_readLine 311 = .ok (.aload_n 0, 1) := by decide +kernel
theorem dX14_readLine_312 : decode cX14_readLine 312 = .ok (.bipush 61, 2) := by decide +kernel
theorem dX14_readLine_314 : decode cX14_readLine 314 = .ok (.invokevirtual 141, 3) := by decide +kernel
theorem dX14_readLine_317 : decode cX14_readLine 317 = .ok (.ifCond .eq 8, 3) := by decide +kernel
theorem dX14_readLine_320 : decode cX14_readLine 320 = .ok (.bipush 8, 2) := by decide +kernel
theorem dX14_readLine_322 : decode cX14_readLine 322 = .ok (.goto 4, 3) := by decide +kernel
theorem dX14_readLine_325 : decode cX14_readLine 325 = .ok (.iconst (-1), 1) := by decide +kernel
theorem dX14_readLine_326 : decode cX14_readLine 326 = .ok (.istore 5, 2) := by decide +kernel
theorem dX14_readLine_328 : decode cX14_readLine 328 = .ok (.iload 5, 2) := by decide +kernel
theorem dX14_readLine_330 : decode cX14_readLine 330 = .ok (.iconst (-1), 1) := by decide +kernel
theorem dX14_readLine_331 : decode cX14_readLine 331 = .ok (.if_icmp .ne 13, 3) := by decide +kernel
theorem dX14_readLine_334 : decode cX14_readLine 334 = .ok (.aload_n 0, 1) := by decide +kernel
theorem dX14_readLine_335 : decode cX14_readLine 335 = .ok (.iconst 1, 1) := by decide +kernel
theorem dX14_readLine_336 : decode cX14_readLine 336 = .ok (.aload_n 0, 1) := by decide +kernel
theorem dX14_readLine_337 : decode cX14_readLine 337 = .ok (.getfield 110, 3) := by decide +kernel
theorem dX14_readLine_340 : decode cX14_readLine 340 = .ok (.invokevirtual 144, 3) := by decide +kernel
theorem dX14_readLine_343 : decode cX14_readLine 343 = .ok (.athrow, 1) := by decide +kernel
theorem dX14_readLine_344 : decode cX14_readLine 344 = .ok (.aload_n 0, 1) := by decide +kernel
theorem dX14_readLine_345 : decode cX14_readLine 345 = .ok (.invokevirtual 147, 3) := by decide +kernel
theorem dX14_readLine_348 : decode cX14_readLine 348 = .ok (.aload_n 0, 1) := by decide +kernel
theorem dX14_readLine_349 : decode cX14_readLine 349 = .ok (.invokevirtual 273, 3) := by decide +kernel
theorem dX14_readLine_352 : decode cX14_readLine 352 = .ok (.aload_n 0, 1) := by decide +kernel
theorem dX14_readLine_353 : decode cX14_readLine 353 = .ok (.getfield 23, 3) := by decide +kernel
theorem dX14_readLine_356 : decode cX14_readLine 356 = .ok (.iload 5, 2) := by decide +kernel
theorem dX14_readLine_358 : decode cX14_readLine 358 = .ok (.iconst 0, 1) := by decide +kernel
theorem dX14_readLine_359 : decode cX14_readLine 359 = .ok (.invokevirtual 276, 3) := by decide +kernel
theorem dX14_readLine_362 : decode cX14_readLine 362 = .ok (.aload_n 0, 1) := by decide +kernel
theorem dX14_readLine_363 : decode cX14_readLine 363 = .ok (.getfield 23, 3) := by decide +kernel
theorem dX14_readLine_366 : decode cX14_readLine 366 = .ok (.getfield 280, 3) := by decide +kernel
theorem dX14_readLine_369 : decode cX14_readLine 369 = .ok (.iload 4, 2) := by decide +kernel
theorem dX14_readLine_371 : decode cX14_readLine 371 = .ok (.aload_n 0, 1) := by decide +kernel
theorem dX14_readLine_372 : decode cX14_readLine 372 = .ok (.getfield 23, 3) := by decide +kernel
theorem dX14_readLine_375 : decode cX14_readLine 375 = .ok (.getfield 174, 3) := by decide +kernel
theorem dX14_readLine_378 : decode cX14_readLine 378 = .ok (.iastore, 1) := by decide +kernel
theorem dX14_readLine_379 : decode cX14_readLine 379 = .ok (.iload_n 3, 1) := by decide +kernel
theorem dX14_readLine_380 : decode cX14_readLine 380 = .ok (.iconst 3, 1) := by decide +kernel
theorem dX14_readLine_381 : decode cX14_readLine 381 = .ok (.if_icmp .lt 20, 3) := by decide +kernel
theorem dX14_readLine_384 : decode cX14_readLine 384 = .ok (.aload_n 0, 1) := by decide +kernel
theorem dX14_readLine_385 : decode cX14_readLine 385 = .ok (.getfield 23, 3) := by decide +kernel
theorem dX14_readLine_388 : decode cX14_readLine 388 = .ok (.getfield 261, 3) := by decide +kernel
theorem dX14_readLine_391 : decode cX14_readLine 391 = .ok (.iload 4, 2) := by decide +kernel
theorem dX14_readLine_393 : decode cX14_readLine 393 = .ok (.aload_n 0, 1) := by decide +kernel
theorem dX14_readLine_394 : decode cX14_readLine 394 = .ok (.iload_n 1, 1) := by decide +kernel
theorem dX14_readLine_395 : decode cX14_readLine 395 = .ok (.iload 4, 2) := by decide +kernel
theorem dX14_readLine_397 : decode cX14_readLine 397 = .ok (.invokevirtual 233, 3) := by decide +kernel
theorem dX14_readLine_400 : decode cX14_readLine 400 = .ok (.iastore, 1) := by decide +kernel
theorem dX14_readLine_401 : decode cX14_readLine 401 = .ok (.iload_n 3, 1) := by decide +kernel
theorem dX14_readLine_402 : decode cX14_readLine 402 = .ok (.iconst 3, 1) := by decide +kernel
theorem dX14_readLine_403 : decode cX14_readLine 403 = .ok (.if_icmp .ne 33, 3) := by decide +kernel
theorem dX14_readLine_406 : decode cX14_readLine 406 = .ok (.aload_n 0, 1) := by decide +kernel
theorem dX14_readLine_407 : decode cX14_readLine 407 = .ok (.ldc 164, 2) := by decide +kernel
theorem dX14_readLine_409 : decode cX14_readLine 409 = .ok (.invokevirtual 154, 3) := by decide +kernel
theorem dX14_readLine_412 : decode cX14_readLine 412 = .ok (.ifCond .eq 24, 3) := by decide +kernel
theorem dX14_readLine_415 : decode cX14_readLine 415 = .ok (.aload_n 0, 1) := by decide +kernel
theorem dX14_readLine_416 : decode cX14_readLine 416 = .ok (.invokevirtual 147, 3) := by decide +kernel
theorem dX14_readLine_419 : decode cX14_readLine 419 = .ok (.aload_n 0, 1) := by decide +kernel
theorem dX14_readLine_420 : decode cX14_readLine 420 = .ok (.getfield 23, 3) := by decide +kernel
theorem dX14_readLine_423 : decode cX14_readLine 423 = .ok (.getfield 264, 3) := by decide +kernel
theorem dX14_readLine_426 : decode cX14_readLine 426 = .ok (.iload 4, 2) := by decide +kernel
theorem dX14_readLine_428 : decode cX14_readLine 428 = .ok (.aload_n 0, 1) := by decide +kernel
theorem dX14_readLine_429 : decode cX14_readLine 429 = .ok (.iload_n 1, 1) := by decide +kernel
theorem dX14_readLine_430 : decode cX14_readLine 430 = .ok (.iload 4, 2) := by decide +kernel
theorem dX14_readLine_432 : decode cX14_readLine 432 = .ok (.invokevirtual 233, 3) := by decide +kernel
theorem dX14_readLine_435 : decode cX14_readLine 435 = .ok (.iastore, 1) := by decide +kernel
theorem dX14_readLine_436 : decode cX14_readLine 436 = .ok (.iload 4, 2) := by decide +kernel
theorem dX14_readLine_438 : decode cX14_readLine 438 = .ok (.ireturn, 1) := by decide +kernel
theorem dX14_readSum_0 : decode cX14_readSum 0 = .ok (.aload_n 0, 1) := by decide +kernel
theorem dX14_readSum_1 : decode cX14_readSum 1 = .ok (.invokevirtual 283, 3) := by decide +kernel
theorem dX14_readSum_4 : decode cX14_readSum 4 = .ok (.aload_n 0, 1) := by decide +kernel
theorem dX14_readSum_5 : decode cX14_readSum 5 = .ok (.bipush 43, 2) := by decide +kernel
theorem dX14_readSum_7 : decode cX14_readSum 7 = .ok (.invokevirtual 141, 3) := by decide +kernel
theorem dX14_readSum_10 : decode cX14_readSum 10 = .ok (.ifCond .ne 12, 3) := by decide +kernel
theorem dX14_readSum_13 : decode cX14_readSum 13 = .ok (.aload_n 0, 1) := by decide +kernel
theorem dX14_readSum_14 : decode cX14_readSum 14 = .ok (.bipush 45, 2) := by decide +kernel
theorem dX14_readSum_16 : decode cX14_readSum 16 = .ok (.invokevirtual 141, 3) := by decide +kernel
theorem dX14_readSum_19 : decode cX14_readSum 19 = .ok (.ifCond .eq 38, 3) := by decide +kernel
theorem dX14_readSum_22 : decode cX14_readSum 22 = .ok (.aload_n 0, 1) := by decide +kernel
theorem dX14_readSum_23 : decode cX14_readSum 23 = .ok (.bipush 43, 2) := by decide +kernel
theorem dX14_readSum_25 : decode cX14_readSum 25 = .ok (.invokevirtual 141, 3) := by decide +kernel
theorem dX14_readSum_28 : decode cX14_readSum 28 = .ok (.ifCond .eq 7, 3) := by decide +kernel
theorem dX14_readSum_31 : decode cX14_readSum 31 = .ok (.iconst 2, 1) := by decide +kernel
theorem dX14_readSum_32 : decode cX14_readSum 32 = .ok (.goto 4, 3) := by decide +kernel
theorem dX14_readSum_35 : decode cX14_readSum 35 = .ok (.iconst 3, 1) := by decide +kernel
theorem dX14_readSum_36 : decode cX14_readSum 36 = .ok (.istore_n 1, 1) := by decide +kernel
theorem dX14_readSum_37 : decode cX14_readSum 37 = .ok (.aload_n 0, 1) := by decide +kernel
theorem dX14_readSum_38 : decode cX14_readSum 38 = .ok (.invokevirtual 147, 3) := by decide +kernel
theorem dX14_readSum_41 : decode cX14_readSum 41 = .ok (.aload_n 0, 1) := by decide +kernel
theorem dX14_readSum_42 : decode cX14_readSum 42 = .ok (.invokevirtual 283, 3) := by decide +kernel
theorem dX14_readSum_45 : decode cX14_readSum 45 = .ok (.aload_n 0, 1) := by decide +kernel
theorem dX14_readSum_46 : decode cX14_readSum 46 = .ok (.getfield 23, 3) := by decide +kernel
theorem dX14_readSum_49 : decode cX14_readSum 49 = .ok (.iload_n 1, 1) := by decide +kernel
theorem dX14_readSum_50 : decode cX14_readSum 50 = .ok (.iconst 0, 1) := by decide +kernel
theorem dX14_readSum_51 : decode cX14_readSum 51 = .ok (.invokevirtual 276, 3) := by decide +kernel
theorem dX14_readSum_54 : decode cX14_readSum 54 = .ok (.goto (-50), 3) := by decide +kernel
theorem dX14_readSum_57 : decode cX14_readSum 57 = .ok (.return_, 1) := by decide +kernel
theorem dX14_readTerm_0 : decode cX14_readTerm 0 = .ok (.aload_n 0, 1) := by decide +kernel
theorem dX14_readTerm_1 : decode cX14_readTerm 1 = .ok (.invokevirtual 286, 3) := by decide +kernel
theorem dX14_readTerm_4 : decode cX14_readTerm 4 = .ok (.aload_n 0, 1) := by decide +kernel
theorem dX14_readTerm_5 : decode cX14_readTerm 5 = .ok (.bipush 42, 2) := by decide +kernel
theorem dX14_readTerm_7 : decode cX14_readTerm 7 = .ok (.invokevirtual 141, 3) := by decide +kernel
theorem dX14_readTerm_10 : decode cX14_readTerm 10 = .ok (.ifCond .eq 23, 3) := by decide +kernel
theorem dX14_readTerm_13 : decode cX14_readTerm 13 = .ok (.aload_n 0, 1) := by decide +kernel
theorem dX14_readTerm_14 : decode cX14_readTerm 14 = .ok (.invokevirtual 147, 3) := by decide +kernel
theorem dX14_readTerm_17 : decode cX14_readTerm 17 = .ok (.aload_n 0, 1) := by decide +kernel
theorem dX14_readTerm_18 : decode cX14_readTerm 18 = .ok (.invokevirtual 286, 3) := by decide +kernel
theorem dX14_readTerm_21 : decode cX14_readTerm 21 = .ok (.aload_n 0, 1) := by decide +kernel
theorem dX14_readTerm_22 : decode cX14_readTerm 22 = .ok (.getfield 23, 3) := by decide +kernel
theorem dX14_readTerm_25 : decode cX14_readTerm 25 = .ok (.iconst 4, 1) := by decide +kernel
theorem dX14_readTerm_26 : decode cX14_readTerm 26 = .ok (.iconst 0, 1) := by decide +kernel
theorem dX14_readTerm_27 : decode cX14_readTerm 27 = .ok (.invokevirtual 276, 3) := by decide +kernel
theorem dX14_readTerm_30 : decode cX14_readTerm 30 = .ok (.goto (-26), 3) := by decide +kernel
theorem dX14_readTerm_33 : decode cX14_readTerm 33 = .ok (.return_, 1) := by decide +kernel
theorem dX14_opens_0 : decode cX14_opens 0 = .ok (.aload_n 0, 1) := by decide +kernel
theorem dX14_opens_1 : decode cX14_opens 1 = .ok (.bipush 40, 2) := by decide +kernel
theorem dX14_opens_3 : decode cX14_opens 3 = .ok (.invokevirtual 141, 3) := by decide +kernel
theorem dX14_opens_6 : decode cX14_opens 6 = .ok (.ifCond .ne 13, 3) := by decide +kernel
theorem dX14_opens_9 : decode cX14_opens 9 = .ok (.aload_n 0, 1) := by decide +kernel
theorem dX14_opens_10 : decode cX14_opens 10 = .ok (.iconst 1, 1) := by decide +kernel
theorem dX14_opens_11 : decode cX14_opens 11 = .ok (.aload_n 0, 1) := by decide +kernel
theorem dX14_opens_12 : decode cX14_opens 12 = .ok (.getfield 110, 3) := by decide +kernel
theorem dX14_opens_15 : decode cX14_opens 15 = .ok (.invokevirtual 144, 3) := by decide +kernel
theorem dX14_opens_18 : decode cX14_opens 18 = .ok (.athrow, 1) := by decide +kernel
theorem dX14_opens_19 : decode cX14_opens 19 = .ok (.aload_n 0, 1) := by decide +kernel
theorem dX14_opens_20 : decode cX14_opens 20 = .ok (.getfield 180, 3) := by decide +kernel
theorem dX14_opens_23 : decode cX14_opens 23 = .ok (.bipush 6, 2) := by decide +kernel
theorem dX14_opens_25 : decode cX14_opens 25 = .ok (.if_icmp .ne 13, 3) := by decide +kernel
theorem dX14_opens_28 : decode cX14_opens 28 = .ok (.aload_n 0, 1) := by decide +kernel
theorem dX14_opens_29 : decode cX14_opens 29 = .ok (.iconst 3, 1) := by decide +kernel
theorem dX14_opens_30 : decode cX14_opens 30 = .ok (.aload_n 0, 1) := by decide +kernel
theorem dX14_opens_31 : decode cX14_opens 31 = .ok (.getfield 110, 3) := by decide +kernel
theorem dX14_opens_34 : decode cX14_opens 34 = .ok (.invokevirtual 144, 3) := by decide +kernel
theorem dX14_opens_37 : decode cX14_opens 37 = .ok (.athrow, 1) := by decide +kernel
theorem dX14_opens_38 : decode cX14_opens 38 = .ok (.aload_n 0, 1) := by decide +kernel
theorem dX14_opens_39 : decode cX14_opens 39 = .ok (.dup, 1) := by decide +kernel
theorem dX14_opens_40 : decode cX14_opens 40 = .ok (.getfield 180, 3) := by decide +kernel
theorem dX14_opens_43 : decode cX14_opens 43 = .ok (.iconst 1, 1) := by decide +kernel
theorem dX14_opens_44 : decode cX14_opens 44 = .ok (.iadd, 1) := by decide +kernel
theorem dX14_opens_45 : decode cX14_opens 45 = .ok (.putfield 180, 3) := by decide +kernel
theorem dX14_opens_48 : decode cX14_opens 48 = .ok (.aload_n 0, 1) := by decide +kernel
theorem dX14_opens_49 : decode cX14_opens 49 = .ok (.invokevirtual 147, 3) := by decide +kernel
theorem dX14_opens_52 : decode cX14_opens 52 = .ok (.return_, 1) := by decide +kernel
theorem dX14_canBegin_0 : decode cX14_canBegin 0 = .ok (.aload_n 0, 1) := by decide +kernel
theorem dX14_canBegin_1 : decode cX14_canBegin 1 = .ok (.getfield 111, 3) := by decide +kernel
theorem dX14_canBegin_4 : decode cX14_canBegin 4 = .ok (.iconst 3, 1) := by decide +kernel
theorem dX14_canBegin_5 : decode cX14_canBegin 5 = .ok (.if_icmp .eq 26, 3) := by decide +kernel
theorem dX14_canBegin_8 : decode cX14_canBegin 8 = .ok (.aload_n 0, 1) := by decide +kernel
theorem dX14_canBegin_9 : decode cX14_canBegin 9 = .ok (.invokevirtual 225, 3) := by decide +kernel
theorem dX14_canBegin_12 : decode cX14_canBegin 12 = .ok (.ifCond .ne 19, 3) := by decide +kernel
theorem dX14_canBegin_15 : decode cX14_canBegin 15 = .ok (.aload_n 0, 1) := by decide +kernel
theorem dX14_canBegin_16 : decode cX14_canBegin 16 = .ok (.invokevirtual 211, 3) := by decide +kernel
theorem dX14_canBegin_19 : decode cX14_canBegin 19 = .ok (.ifCond .ne 12, 3) := by decide +kernel
theorem dX14_canBegin_22 : decode cX14_canBegin 22 = .ok (.aload_n 0, 1) := by decide +kernel
theorem dX14_canBegin_23 : decode cX14_canBegin 23 = .ok (.bipush 40, 2) := by decide +kernel
theorem dX14_canBegin_25 : decode cX14_canBegin 25 = .ok (.invokevirtual 141, 3) := by decide +kernel
theorem dX14_canBegin_28 : decode cX14_canBegin 28 = .ok (.ifCond .eq 7, 3) := by decide +kernel
theorem dX14_canBegin_31 : decode cX14_canBegin 31 = .ok (.iconst 1, 1) := by decide +kernel
theorem dX14_canBegin_32 : decode cX14_canBegin 32 = .ok (.goto 4, 3) := by decide +kernel
theorem dX14_canBegin_35 : decode cX14_canBegin 35 = .ok (.iconst 0, 1) := by decide +kernel
theorem dX14_canBegin_36 : decode cX14_canBegin 36 = .ok (.ireturn, 1) := by decide +kernel
theorem dX14_readPart_0 : decode cX14_readPart 0 = .ok (.aload_n 0, 1) := by decide +kernel
theorem dX14_readPart_1 : decode cX14_readPart 1 = .ok (.invokevirtual 289, 3) := by decide +kernel
theorem dX14_readPart_4 : decode cX14_readPart 4 = .ok (.ifCond .ne 13, 3) := by decide +kernel
theorem dX14_readPart_7 : decode cX14_readPart 7 = .ok (.aload_n 0, 1) := by decide +kernel
theorem dX14_readPart_8 : decode cX14_readPart 8 = .ok (.iconst 1, 1) := by decide +kernel
theorem dX14_readPart_9 : decode cX14_readPart 9 = .ok (.aload_n 0, 1) := by decide +kernel
theorem dX14_readPart_10 : decode cX14_readPart 10 = .ok (.getfield 110, 3) := by decide +kernel
theorem dX14_readPart_13 : decode cX14_readPart 13 = .ok (.invokevirtual 144, 3) := by decide +kernel
theorem dX14_readPart_16 : decode cX14_readPart 16 = .ok (.athrow, 1) := by decide +kernel
theorem dX14_readPart_17 : decode cX14_readPart 17 = .ok (.aload_n 0, 1) := by decide +kernel
theorem dX14_readPart_18 : decode cX14_readPart 18 = .ok (.getfield 111, 3) := by decide +kernel
theorem dX14_readPart_21 : decode cX14_readPart 21 = .ok (.iconst 3, 1) := by decide +kernel
theorem dX14_readPart_22 : decode cX14_readPart 22 = .ok (.if_icmp .ne 22, 3) := by decide +kernel
theorem dX14_readPart_25 : decode cX14_readPart 25 = .ok (.aload_n 0, 1) := by decide +kernel
theorem dX14_readPart_26 : decode cX14_readPart 26 = .ok (.getfield 23, 3) := by decide +kernel
theorem dX14_readPart_29 : decode cX14_readPart 29 = .ok (.iconst 0, 1) := by decide +kernel
theorem dX14_readPart_30 : decode cX14_readPart 30 = .ok (.aload_n 0, 1) := by decide +kernel
theorem dX14_readPart_31 : decode cX14_readPart 31 = .ok (.getfield 131, 3) := by decide +kernel
theorem dX14_readPart_34 : decode cX14_readPart 34 = .ok (.invokevirtual 276, 3) := by decide +kernel
theorem dX14_readPart_37 : decode cX14_readPart 37 = .ok (.aload_n 0, 1) := by decide +kernel
theorem dX14_readPart_38 : decode cX14_readPart 38 = .ok (.invokevirtual 147, 3) := by decide +kernel
theorem dX14_readPart_41 : decode cX14_readPart 41 = .ok (.goto 244, 3) := by decide +kernel
theorem dX14_readPart_44 : decode cX14_readPart 44 = .ok (.aload_n 0, 1) := by decide +kernel
theorem dX14_readPart_45 : decode cX14_readPart 45 = .ok (.invokevirtual 225, 3) := by decide +kernel
theorem dX14_readPart_48 : decode cX14_readPart 48 = .ok (.ifCond .eq 25, 3) := by decide +kernel
theorem dX14_readPart_51 : decode cX14_readPart 51 = .ok (.aload_n 0, 1) := by decide +kernel
theorem dX14_readPart_52 : decode cX14_readPart 52 = .ok (.getfield 23, 3) := by decide +kernel
theorem dX14_readPart_55 : decode cX14_readPart 55 = .ok (.iconst 1, 1) := by decide +kernel
theorem dX14_readPart_56 : decode cX14_readPart 56 = .ok (.aload_n 0, 1) := by decide +kernel
theorem dX14_readPart_57 : decode cX14_readPart 57 = .ok (.getfield 121, 3) := by decide +kernel
theorem dX14_readPart_60 : decode cX14_readPart 60 = .ok (.l2i, 1) := by decide +kernel
theorem dX14_readPart_61 : decode cX14_readPart 61 = .ok (.iconst 1, 1) := by decide +kernel
theorem dX14_readPart_62 : decode cX14_readPart 62 = .ok (.isub, 1) := by decide +kernel
theorem dX14_readPart_63 : decode cX14_readPart 63 = .ok (.invokevirtual 276, 3) := by decide +kernel
theorem dX14_readPart_66 : decode cX14_readPart 66 = .ok (.aload_n 0, 1) := by decide +kernel
theorem dX14_readPart_67 : decode cX14_readPart 67 = .ok (.invokevirtual 147, 3) := by decide +kernel
theorem dX14_readPart_70 : decode cX14_readPart 70 = .ok (.goto 215, 3) := by decide +kernel
theorem dX14_readPart_73 : decode cX14_readPart 73 = .ok (.aload_n 0, 1) := by decide +kernel
theorem dX14_readPart_74 : decode cX14_readPart 74 = .ok (.bipush 40, 2) := by decide +kernel
theorem dX14_readPart_76 : decode cX14_readPart 76 = .ok (.invokevirtual 141, 3) := by decide +kernel
theorem dX14_readPart_79 : decode cX14_readPart 79 = .ok (.ifCond .eq 30, 3) := by decide +kernel
theorem dX14_readPart_82 : decode cX14_readPart 82 = .ok (.aload_n 0, 1) := by decide +kernel
theorem dX14_readPart_83 : decode cX14_readPart 83 = .ok (.invokevirtual 292, 3) := by decide +kernel
theorem dX14_readPart_86 : decode cX14_readPart 86 = .ok (.aload_n 0, 1) := by decide +kernel
theorem dX14_readPart_87 : decode cX14_readPart 87 = .ok (.invokevirtual 273, 3) := by decide +kernel
theorem dX14_readPart_90 : decode cX14_readPart 90 = .ok (.aload_n 0, 1) := by decide +kernel
theorem dX14_readPart_91 : decode cX14_readPart 91 = .ok (.bipush 41, 2) := by decide +kernel
theorem dX14_readPart_93 : decode cX14_readPart 93 = .ok (.invokevirtual 221, 3) := by decide +kernel
theorem dX14_readPart_96 : decode cX14_readPart 96 = .ok (.aload_n 0, 1) := by decide +kernel
theorem dX14_readPart_97 : decode cX14_readPart 97 = .ok (.dup, 1) := by decide +kernel
theorem dX14_readPart_98 : decode cX14_readPart 98 = .ok (.getfield 180, 3) := by decide +kernel
theorem dX14_readPart_101 : decode cX14_readPart 101 = .ok (.iconst 1, 1) := by decide +kernel
theorem dX14_readPart_102 : decode cX14_readPart 102 = .ok (.isub, 1) := by decide +kernel
theorem dX14_readPart_103 : decode cX14_readPart 103 = .ok (.putfield 180, 3) := by decide +kernel
theorem dX14_readPart_106 : decode cX14_readPart 106 = .ok (.goto 179, 3) := by decide +kernel
theorem dX14_readPart_109 : decode cX14_readPart 109 = .ok (.aload_n 0, 1) := by decide +kernel
theorem dX14_readPart_110 : decode cX14_readPart 110 = .ok (.getfield 121, 3) := by decide +kernel
theorem dX14_readPart_113 : decode cX14_readPart 113 = .ok (.lstore_n 1, 1) := by decide +kernel
theorem dX14_readPart_114 : decode cX14_readPart 114 = .ok (.aload_n 0, 1) := by decide +kernel
theorem dX14_readPart_115 : decode cX14_readPart 115 = .ok (.getfield 110, 3) := by decide +kernel
theorem dX14_readPart_118 : decode cX14_readPart 118 = .ok (.istore_n 3, 1) := by decide +kernel
theorem dX14_readPart_119 : decode cX14_readPart 119 = .ok (.aload_n 0, 1) := by decide +kernel
theorem dX14_readPart_120 : decode cX14_readPart 120 = .ok (.invokevirtual 147, 3) := by decide +kernel
theorem dX14_readPart_123 : decode cX14_readPart 123 = .ok (.aload_n 0, 1) := by decide +kernel
theorem dX14_readPart_124 : decode cX14_readPart 124 = .ok (.invokevirtual 292, 3) := by decide +kernel
theorem dX14_readPart_127 : decode cX14_readPart 127 = .ok (.iconst 0, 1) := by decide +kernel
theorem dX14_readPart_128 : decode cX14_readPart 128 = .ok (.istore 4, 2) := by decide +kernel
theorem dX14_readPart_130 : decode cX14_readPart 130 = .ok (.aload_n 0, 1) := by decide +kernel
theorem dX14_readPart_131 : decode cX14_readPart 131 = .ok (.bipush 41, 2) := by decide +kernel
theorem dX14_readPart_133 : decode cX14_readPart 133 = .ok (.invokevirtual 141, 3) := by decide +kernel
theorem dX14_readPart_136 : decode cX14_readPart 136 = .ok (.ifCond .ne 7, 3) := by decide +kernel
theorem dX14_readPart_139 : decode cX14_readPart 139 = .ok (.iconst 1, 1) := by decide +kernel
theorem dX14_readPart_140 : decode cX14_readPart 140 = .ok (.goto 4, 3) := by decide +kernel
theorem dX14_readPart_143 : decode cX14_readPart 143 = .ok (.iconst 0, 1) := by decide +kernel
theorem dX14_readPart_144 : decode cX14_readPart 144 = .ok (.istore 5, 2) := by decide +kernel
theorem dX14_readPart_146 : decode cX14_readPart 146 = .ok (.iload 5, 2) := by decide +kernel
theorem dX14_readPart_148 : decode cX14_readPart 148 = .ok (.ifCond .eq 63, 3) := by decide +kernel
theorem dX14_readPart_151 : decode cX14_readPart 151 = .ok (.aload_n 0, 1) := by decide +kernel
theorem dX14_readPart_152 : decode cX14_readPart 152 = .ok (.invokevirtual 289, 3) := by decide +kernel
theorem dX14_readPart_155 : decode cX14_readPart 155 = .ok (.ifCond .ne 13, 3) := by decide +kernel
theorem dX14_readPart_158 : decode cX14_readPart 158 = .ok (.aload_n 0, 1) := by decide +kernel
theorem dX14_readPart_159 : decode cX14_readPart 159 = .ok (.iconst 1, 1) := by decide +kernel
theorem dX14_readPart_160 : decode cX14_readPart 160 = .ok (.aload_n 0, 1) := by decide +kernel
theorem dX14_readPart_161 : decode cX14_readPart 161 = .ok (.getfield 110, 3) := by decide +kernel
theorem dX14_readPart_164 : decode cX14_readPart 164 = .ok (.invokevirtual 144, 3) := by decide +kernel
theorem dX14_readPart_167 : decode cX14_readPart 167 = .ok (.athrow, 1) := by decide +kernel
theorem dX14_readPart_168 : decode cX14_readPart 168 = .ok (.iload 4, 2) := by decide +kernel
theorem dX14_readPart_170 : decode cX14_readPart 170 = .ok (.iconst 3, 1) := by decide +kernel
theorem dX14_readPart_171 : decode cX14_readPart 171 = .ok (.if_icmp .ne 13, 3) := by decide +kernel
theorem dX14_readPart_174 : decode cX14_readPart 174 = .ok (.aload_n 0, 1) := by decide +kernel
theorem dX14_readPart_175 : decode cX14_readPart 175 = .ok (.iconst 3, 1) := by decide +kernel
theorem dX14_readPart_176 : decode cX14_readPart 176 = .ok (.aload_n 0, 1) := by decide +kernel
theorem dX14_readPart_177 : decode cX14_readPart 177 = .ok (.getfield 110, 3) := by decide +kernel
theorem dX14_readPart_180 : decode cX14_readPart 180 = .ok (.invokevirtual 144, 3) := by decide +kernel
theorem dX14_readPart_183 : decode cX14_readPart 183 = .ok (.athrow, 1) := by decide +kernel
theorem dX14_readPart_184 : decode cX14_readPart 184 = .ok (.aload_n 0, 1) := by decide +kernel
theorem dX14_readPart_185 : decode cX14_readPart 185 = .ok (.invokevirtual 273, 3) := by decide +kernel
theorem dX14_readPart_188 : decode cX14_readPart 188 = .ok (.iinc 4 1, 3) := by decide +kernel
theorem dX14_readPart_191 : decode cX14_readPart 191 = .ok (.aload_n 0, 1) := by decide +kernel
theorem dX14_readPart_192 : decode cX14_readPart 192 = .ok (.bipush 44, 2) := by decide +kernel
theorem dX14_readPart_194 : decode cX14_readPart 194 = .ok (.invokevirtual 141, 3) := by decide +kernel
theorem dX14_readPart_197 : decode cX14_readPart 197 = .ok (.istore 5, 2) := by decide +kernel
theorem dX14_readPart_199 : decode cX14_readPart 199 = .ok (.iload 5, 2) := by decide +kernel
theorem dX14_readPart_201 : decode cX14_readPart 201 = .ok (.ifCond .eq (-55), 3) := by decide +kernel
theorem dX14_readPart_204 : decode cX14_readPart 204 = .ok (.aload_n 0, 1) := by decide +kernel
theorem dX14_readPart_205 : decode cX14_readPart 205 = .ok (.invokevirtual 147, 3) := by decide +kernel
theorem dX14_readPart_208 : decode cX14_readPart 208 = .ok (.goto (-62), 3) := by decide +kernel
theorem dX14_readPart_211 : decode cX14_readPart 211 = .ok (.aload_n 0, 1) := by decide +kernel
theorem dX14_readPart_212 : decode cX14_readPart 212 = .ok (.bipush 41, 2) := by decide +kernel
theorem dX14_readPart_214 : decode cX14_readPart 214 = .ok (.invokevirtual 221, 3) := by decide +kernel
theorem dX14_readPart_217 : decode cX14_readPart 217 = .ok (.aload_n 0, 1) := by decide +kernel
theorem dX14_readPart_218 : decode cX14_readPart 218 = .ok (.dup, 1) := by decide +kernel
theorem dX14_readPart_219 : decode cX14_readPart 219 = .ok (.getfield 180, 3) := by decide +kernel
theorem dX14_readPart_222 : decode cX14_readPart 222 = .ok (.iconst 1, 1) := by decide +kernel
theorem dX14_readPart_223 : decode cX14_readPart 223 = .ok (.isub, 1) := by decide +kernel
theorem dX14_readPart_224 : decode cX14_readPart 224 = .ok (.putfield 180, 3) := by decide +kernel
theorem dX14_readPart_227 : decode cX14_readPart 227 = .ok (.aload_n 0, 1) := by decide +kernel
theorem dX14_readPart_228 : decode cX14_readPart 228 = .ok (.getfield 23, 3) := by decide +kernel
theorem dX14_readPart_231 : decode cX14_readPart 231 = .ok (.getfield 189, 3) := by decide +kernel
theorem dX14_readPart_234 : decode cX14_readPart 234 = .ok (.aload_n 0, 1) := by decide +kernel
theorem dX14_readPart_235 : decode cX14_readPart 235 = .ok (.getfield 23, 3) := by decide +kernel
theorem dX14_readPart_238 : decode cX14_readPart 238 = .ok (.getfield 174, 3) := by decide +kernel
theorem dX14_readPart_241 : decode cX14_readPart 241 = .ok (.lload_n 1, 1) := by decide +kernel
theorem dX14_readPart_242 : decode cX14_readPart 242 = .ok (.lastore, 1) := by decide +kernel
theorem dX14_readPart_243 : decode cX14_readPart 243 = .ok (.aload_n 0, 1) := by decide +kernel
theorem dX14_readPart_244 : decode cX14_readPart 244 = .ok (.getfield 23, 3) := by decide +kernel
theorem dX14_readPart_247 : decode cX14_readPart 247 = .ok (.getfield 202, 3) := by decide +kernel
theorem dX14_readPart_250 : decode cX14_readPart 250 = .ok (.aload_n 0, 1) := by decide +kernel
theorem dX14_readPart_251 : decode cX14_readPart 251 = .ok (.getfield 23, 3) := by decide +kernel
theorem dX14_readPart_254 : decode cX14_readPart 254 = .ok (.getfield 174, 3) := by decide +kernel
theorem dX14_readPart_257 : decode cX14_readPart 257 = .ok (.iload_n 3, 1) := by decide +kernel
theorem dX14_readPart_258 : decode cX14_readPart 258 = .ok (.iastore, 1) := by decide +kernel
theorem dX14_readPart_259 : decode cX14_readPart 259 = .ok (.aload_n 0, 1) := by decide +kernel
theorem dX14_readPart_260 : decode cX14_readPart 260 = .ok (.getfield 23, 3) := by decide +kernel
theorem dX14_readPart_263 : decode cX14_readPart 263 = .ok (.getfield 199, 3) := by decide +kernel
theorem dX14_readPart_266 : decode cX14_readPart 266 = .ok (.aload_n 0, 1) := by decide +kernel
theorem dX14_readPart_267 : decode cX14_readPart 267 = .ok (.getfield 23, 3) := by decide +kernel
theorem dX14_readPart_270 : decode cX14_readPart 270 = .ok (.getfield 174, 3) := by decide +kernel
theorem dX14_readPart_273 : decode cX14_readPart 273 = .ok (.iload 4, 2) := by decide +kernel
theorem dX14_readPart_275 : decode cX14_readPart 275 = .ok (.iastore, 1) := by decide +kernel
theorem dX14_readPart_276 : decode cX14_readPart 276 = .ok (.aload_n 0, 1) := by decide +kernel
theorem dX14_readPart_277 : decode cX14_readPart 277 = .ok (.getfield 23, 3) := by decide +kernel
theorem dX14_readPart_280 : decode cX14_readPart 280 = .ok (.iconst 5, 1) := by decide +kernel
theorem dX14_readPart_281 : decode cX14_readPart 281 = .ok (.iconst (-1), 1) := by decide +kernel
theorem dX14_readPart_282 : decode cX14_readPart 282 = .ok (.invokevirtual 276, 3) := by decide +kernel
theorem dX14_readPart_285 : decode cX14_readPart 285 = .ok (.return_, 1) := by decide +kernel
theorem dX14_texts_0 : decode cX14_texts 0 = .ok (.aload_n 0, 1) := by decide +kernel
theorem dX14_texts_1 : decode cX14_texts 1 = .ok (.getfield 23, 3) := by decide +kernel
theorem dX14_texts_4 : decode cX14_texts 4 = .ok (.iconst 0, 1) := by decide +kernel
theorem dX14_texts_5 : decode cX14_texts 5 = .ok (.putfield 295, 3) := by decide +kernel
theorem dX14_texts_8 : decode cX14_texts 8 = .ok (.iconst 0, 1) := by decide +kernel
theorem dX14_texts_9 : decode cX14_texts 9 = .ok (.istore_n 1, 1) := by decide +kernel
theorem dX14_texts_10 : decode cX14_texts 10 = .ok (.iload_n 1, 1) := by decide +kernel
theorem dX14_texts_11 : decode cX14_texts 11 = .ok (.aload_n 0, 1) := by decide +kernel
theorem dX14_texts_12 : decode cX14_texts 12 = .ok (.getfield 23, 3) := by decide +kernel
theorem dX14_texts_15 : decode cX14_texts 15 = .ok (.getfield 168, 3) := by decide +kernel
theorem dX14_texts_18 : decode cX14_texts 18 = .ok (.if_icmp .ge 184, 3) := by decide +kernel
theorem dX14_texts_21 : decode cX14_texts 21 = .ok (.aload_n 0, 1) := by decide +kernel
theorem dX14_texts_22 : decode cX14_texts 22 = .ok (.getfield 23, 3) := by decide +kernel
theorem dX14_texts_25 : decode cX14_texts 25 = .ok (.getfield 245, 3) := by decide +kernel
theorem dX14_texts_28 : decode cX14_texts 28 = .ok (.iload_n 1, 1) := by decide +kernel
theorem dX14_texts_29 : decode cX14_texts 29 = .ok (.iaload, 1) := by decide +kernel
theorem dX14_texts_30 : decode cX14_texts 30 = .ok (.istore_n 2, 1) := by decide +kernel
theorem dX14_texts_31 : decode cX14_texts 31 = .ok (.aload_n 0, 1) := by decide +kernel
theorem dX14_texts_32 : decode cX14_texts 32 = .ok (.aload_n 0, 1) := by decide +kernel
theorem dX14_texts_33 : decode cX14_texts 33 = .ok (.getfield 23, 3) := by decide +kernel
theorem dX14_texts_36 : decode cX14_texts 36 = .ok (.getfield 208, 3) := by decide +kernel
theorem dX14_texts_39 : decode cX14_texts 39 = .ok (.iload_n 1, 1) := by decide +kernel
theorem dX14_texts_40 : decode cX14_texts 40 = .ok (.iaload, 1) := by decide +kernel
theorem dX14_texts_41 : decode cX14_texts 41 = .ok (.putfield 103, 3) := by decide +kernel
theorem dX14_texts_44 : decode cX14_texts 44 = .ok (.aload_n 0, 1) := by decide +kernel
theorem dX14_texts_45 : decode cX14_texts 45 = .ok (.getfield 23, 3) := by decide +kernel
theorem dX14_texts_48 : decode cX14_texts 48 = .ok (.getfield 208, 3) := by decide +kernel
theorem dX14_texts_51 : decode cX14_texts 51 = .ok (.iload_n 1, 1) := by decide +kernel
theorem dX14_texts_52 : decode cX14_texts 52 = .ok (.aload_n 0, 1) := by decide +kernel
theorem dX14_texts_53 : decode cX14_texts 53 = .ok (.getfield 23, 3) := by decide +kernel
theorem dX14_texts_56 : decode cX14_texts 56 = .ok (.getfield 295, 3) := by decide +kernel
theorem dX14_texts_59 : decode cX14_texts 59 = .ok (.iastore, 1) := by decide +kernel
theorem dX14_texts_60 : decode cX14_texts 60 = .ok (.aload_n 0, 1) := by decide +kernel
theorem dX14_texts_61 : decode cX14_texts 61 = .ok (.invokevirtual 147, 3) := by decide +kernel
theorem dX14_texts_64 : decode cX14_texts 64 = .ok (.aload_n 0, 1) := by decide +kernel
theorem dX14_texts_65 : decode cX14_texts 65 = .ok (.getfield 111, 3) := by decide +kernel
theorem dX14_texts_68 : decode cX14_texts 68 = .ok (.iconst 1, 1) := by decide +kernel
theorem dX14_texts_69 : decode cX14_texts 69 = .ok (.if_icmp .eq 101, 3) := by decide +kernel
theorem dX14_texts_72 : decode cX14_texts 72 = .ok (.aload_n 0, 1) := by decide +kernel
theorem dX14_texts_73 : decode cX14_texts 73 = .ok (.getfield 110, 3) := by decide +kernel
theorem dX14_texts_76 : decode cX14_texts 76 = .ok (.iload_n 2, 1) := by decide +kernel
theorem dX14_texts_77 : decode cX14_texts 77 = .ok (.if_icmp .ge 93, 3) := by decide +kernel
theorem dX14_texts_80 : decode cX14_texts 80 = .ok (.aload_n 0, 1) := by decide +kernel
theorem dX14_texts_81 : decode cX14_texts 81 = .ok (.getfield 110, 3) := by decide +kernel
theorem dX14_texts_84 : decode cX14_texts 84 = .ok (.istore_n 3, 1) := by decide +kernel
theorem dX14_texts_85 : decode cX14_texts 85 = .ok (.iload_n 3, 1) := by decide +kernel
theorem dX14_texts_86 : decode cX14_texts 86 = .ok (.aload_n 0, 1) := by decide +kernel
theorem dX14_texts_87 : decode cX14_texts 87 = .ok (.getfield 103, 3) := by decide +kernel
theorem dX14_texts_90 : decode cX14_texts 90 = .ok (.if_icmp .ge 43, 3) := by decide +kernel
theorem dX14_texts_93 : decode cX14_texts 93 = .ok (.aload_n 0, 1) := by decide +kernel
theorem dX14_texts_94 : decode cX14_texts 94 = .ok (.getfield 23, 3) := by decide +kernel
theorem dX14_texts_97 : decode cX14_texts 97 = .ok (.getfield 298, 3) := by decide +kernel
theorem dX14_texts_100 : decode cX14_texts 100 = .ok (.aload_n 0, 1) := by decide +kernel
theorem dX14_texts_101 : decode cX14_texts 101 = .ok (.getfield 23, 3) := by decide +kernel
theorem dX14_texts_104 : decode cX14_texts 104 = .ok (.getfield 295, 3) := by decide +kernel
theorem dX14_texts_107 : decode cX14_texts 107 = .ok (.aload_n 0, 1) := by decide +kernel
theorem dX14_texts_108 : decode cX14_texts 108 = .ok (.getfield 33, 3) := by decide +kernel
theorem dX14_texts_111 : decode cX14_texts 111 = .ok (.iload_n 3, 1) := by decide +kernel
theorem dX14_texts_112 : decode cX14_texts 112 = .ok (.baload, 1) := by decide +kernel
theorem dX14_texts_113 : decode cX14_texts 113 = .ok (.bastore, 1) := by decide +kernel
theorem dX14_texts_114 : decode cX14_texts 114 = .ok (.aload_n 0, 1) := by decide +kernel
theorem dX14_texts_115 : decode cX14_texts 115 = .ok (.getfield 23, 3) := by decide +kernel
theorem dX14_texts_118 : decode cX14_texts 118 = .ok (.dup, 1) := by decide +kernel
theorem dX14_texts_119 : decode cX14_texts 119 = .ok (.getfield 295, 3) := by decide +kernel
theorem dX14_texts_122 : decode cX14_texts 122 = .ok (.iconst 1, 1) := by decide +kernel
theorem dX14_texts_123 : decode cX14_texts 123 = .ok (.iadd, 1) := by decide +kernel
theorem dX14_texts_124 : decode cX14_texts 124 = .ok (.putfield 295, 3) := by decide +kernel
theorem dX14_texts_127 : decode cX14_texts 127 = .ok (.iinc 3 1, 3) := by decide +kernel
theorem dX14_texts_130 : decode cX14_texts 130 = .ok (.goto (-45), 3) := by decide +kernel
theorem dX14_texts_133 : decode cX14_texts 133 = .ok (.aload_n 0, 1) := by decide +kernel
theorem dX14_texts_134 : decode cX14_texts 134 = .ok (.getfield 23, 3) := by decide +kernel
theorem dX14_texts_137 : decode cX14_texts 137 = .ok (.getfield 298, 3) := by decide +kernel
theorem dX14_texts_140 : decode cX14_texts 140 = .ok (.aload_n 0, 1) := by decide +kernel
theorem dX14_texts_141 : decode cX14_texts 141 = .ok (.getfield 23, 3) := by decide +kernel
theorem dX14_texts_144 : decode cX14_texts 144 = .ok (.getfield 295, 3) := by decide +kernel
theorem dX14_texts_147 : decode cX14_texts 147 = .ok (.bipush 32, 2) := by decide +kernel
theorem dX14_texts_149 : decode cX14_texts 149 = .ok (.bastore, 1) := by decide +kernel
theorem dX14_texts_150 : decode cX14_texts 150 = .ok (.aload_n 0, 1) := by decide +kernel
theorem dX14_texts_151 : decode cX14_texts 151 = .ok (.getfield 23, 3) := by decide +kernel
theorem dX14_texts_154 : decode cX14_texts 154 = .ok (.dup, 1) := by decide +kernel
theorem dX14_texts_155 : decode cX14_texts 155 = .ok (.getfield 295, 3) := by decide +kernel
theorem dX14_texts_158 : decode cX14_texts 158 = .ok (.iconst 1, 1) := by decide +kernel
theorem dX14_texts_159 : decode cX14_texts 159 = .ok (.iadd, 1) := by decide +kernel
theorem dX14_texts_160 : decode cX14_texts 160 = .ok (.putfield 295, 3) := by decide +kernel
theorem dX14_texts_163 : decode cX14_texts 163 = .ok (.aload_n 0, 1) := by decide +kernel
theorem dX14_texts_164 : decode cX14_texts 164 = .ok (.invokevirtual 147, 3) := by decide +kernel
theorem dX14_texts_167 : decode cX14_texts 167 = .ok (.goto (-103), 3) := by decide +kernel
theorem dX14_texts_170 : decode cX14_texts 170 = .ok (.aload_n 0, 1) := by decide +kernel
theorem dX14_texts_171 : decode cX14_texts 171 = .ok (.getfield 23, 3) := by decide +kernel
theorem dX14_texts_174 : decode cX14_texts 174 = .ok (.getfield 245, 3) := by decide +kernel
theorem dX14_texts_177 : decode cX14_texts 177 = .ok (.iload_n 1, 1) := by decide +kernel
theorem dX14_texts_178 : decode cX14_texts 178 = .ok (.aload_n 0, 1) := by decide +kernel
theorem dX14_texts_179 : decode cX14_texts 179 = .ok (.getfield 23, 3) := by decide +kernel
theorem dX14_texts_182 : decode cX14_texts 182 = .ok (.getfield 295, 3) := by decide +kernel
theorem dX14_texts_185 : decode cX14_texts 185 = .ok (.iastore, 1) := by decide +kernel
theorem dX14_texts_186 : decode cX14_texts 186 = .ok (.aload_n 0, 1) := by decide +kernel
theorem dX14_texts_187 : decode cX14_texts 187 = .ok (.getfield 23, 3) := by decide +kernel
theorem dX14_texts_190 : decode cX14_texts 190 = .ok (.getfield 301, 3) := by decide +kernel
theorem dX14_texts_193 : decode cX14_texts 193 = .ok (.iload_n 1, 1) := by decide +kernel
theorem dX14_texts_194 : decode cX14_texts 194 = .ok (.iconst 0, 1) := by decide +kernel
theorem dX14_texts_195 : decode cX14_texts 195 = .ok (.iastore, 1) := by decide +kernel
theorem dX14_texts_196 : decode cX14_texts 196 = .ok (.iinc 1 1, 3) := by decide +kernel
theorem dX14_texts_199 : decode cX14_texts 199 = .ok (.goto (-189), 3) := by decide +kernel
theorem dX14_texts_202 : decode cX14_texts 202 = .ok (.iconst 0, 1) := by decide +kernel
theorem dX14_texts_203 : decode cX14_texts 203 = .ok (.istore_n 1, 1) := by decide +kernel
theorem dX14_texts_204 : decode cX14_texts 204 = .ok (.iload_n 1, 1) := by decide +kernel
theorem dX14_texts_205 : decode cX14_texts 205 = .ok (.aload_n 0, 1) := by decide +kernel
theorem dX14_texts_206 : decode cX14_texts 206 = .ok (.getfield 23, 3) := by decide +kernel
theorem dX14_texts_209 : decode cX14_texts 209 = .ok (.getfield 171, 3) := by decide +kernel
theorem dX14_texts_212 : decode cX14_texts 212 = .ok (.if_icmp .ge 86, 3) := by decide +kernel
theorem dX14_texts_215 : decode cX14_texts 215 = .ok (.aload_n 0, 1) := by decide +kernel
theorem dX14_texts_216 : decode cX14_texts 216 = .ok (.getfield 23, 3) := by decide +kernel
theorem dX14_texts_219 : decode cX14_texts 219 = .ok (.getfield 270, 3) := by decide +kernel
theorem dX14_texts_222 : decode cX14_texts 222 = .ok (.iload_n 1, 1) := by decide +kernel
theorem dX14_texts_223 : decode cX14_texts 223 = .ok (.iaload, 1) := by decide +kernel
theorem dX14_texts_224 : decode cX14_texts 224 = .ok (.istore_n 2, 1) := by decide +kernel
theorem dX14_texts_225 : decode cX14_texts 225 = .ok (.iload_n 2, 1) := by decide +kernel
theorem dX14_texts_226 : decode cX14_texts 226 = .ok (.aload_n 0, 1) := by decide +kernel
theorem dX14_texts_227 : decode cX14_texts 227 = .ok (.getfield 23, 3) := by decide +kernel
theorem dX14_texts_230 : decode cX14_texts 230 = .ok (.getfield 280, 3) := by decide +kernel
theorem dX14_texts_233 : decode cX14_texts 233 = .ok (.iload_n 1, 1) := by decide +kernel
theorem dX14_texts_234 : decode cX14_texts 234 = .ok (.iaload, 1) := by decide +kernel
theorem dX14_texts_235 : decode cX14_texts 235 = .ok (.if_icmp .ge 57, 3) := by decide +kernel
theorem dX14_texts_238 : decode cX14_texts 238 = .ok (.aload_n 0, 1) := by decide +kernel
theorem dX14_texts_239 : decode cX14_texts 239 = .ok (.getfield 23, 3) := by decide +kernel
theorem dX14_texts_242 : decode cX14_texts 242 = .ok (.getfield 301, 3) := by decide +kernel
theorem dX14_texts_245 : decode cX14_texts 245 = .ok (.aload_n 0, 1) := by decide +kernel
theorem dX14_texts_246 : decode cX14_texts 246 = .ok (.getfield 23, 3) := by decide +kernel
theorem dX14_texts_249 : decode cX14_texts 249 = .ok (.getfield 250, 3) := by decide +kernel
theorem dX14_texts_252 : decode cX14_texts 252 = .ok (.iload_n 1, 1) := by decide +kernel
theorem dX14_texts_253 : decode cX14_texts 253 = .ok (.iaload, 1) := by decide +kernel
theorem dX14_texts_254 : decode cX14_texts 254 = .ok (.dup2, 1) := by decide +kernel
theorem dX14_texts_255 : decode cX14_texts 255 = .ok (.iaload, 1) := by decide +kernel
theorem dX14_texts_256 : decode cX14_texts 256 = .ok (.aload_n 0, 1) := by decide +kernel
theorem dX14_texts_257 : decode cX14_texts 257 = .ok (.getfield 23, 3) := by decide +kernel
theorem dX14_texts_260 : decode cX14_texts 260 = .ok (.getfield 186, 3) := by decide +kernel
theorem dX14_texts_263 : decode cX14_texts 263 = .ok (.iload_n 2, 1) := by decide +kernel
theorem dX14_texts_264 : decode cX14_texts 264 = .ok (.iaload, 1) := by decide +kernel
theorem dX14_texts_265 : decode cX14_texts 265 = .ok (.iconst 5, 1) := by decide +kernel
theorem dX14_texts_266 : decode cX14_texts 266 = .ok (.if_icmp .ne 17, 3) := by decide +kernel
theorem dX14_texts_269 : decode cX14_texts 269 = .ok (.iconst 1, 1) := by decide +kernel
theorem dX14_texts_270 : decode cX14_texts 270 = .ok (.aload_n 0, 1) := by decide +kernel
theorem dX14_texts_271 : decode cX14_texts 271 = .ok (.getfield 23, 3) := by decide +kernel
theorem dX14_texts_274 : decode cX14_texts 274 = .ok (.getfield 205, 3) := by decide +kernel
theorem dX14_texts_277 : decode cX14_texts 277 = .ok (.iload_n 2, 1) := by decide +kernel
theorem dX14_texts_278 : decode cX14_texts 278 = .ok (.iaload, 1) := by decide +kernel
theorem dX14_texts_279 : decode cX14_texts 279 = .ok (.ishl, 1) := by decide +kernel
theorem dX14_texts_280 : decode cX14_texts 280 = .ok (.goto 4, 3) := by decide +kernel
theorem dX14_texts_283 : decode cX14_texts 283 = .ok (.iconst 0, 1) := by decide +kernel
theorem dX14_texts_284 : decode cX14_texts 284 = .ok (.ior, 1) := by decide +kernel
theorem dX14_texts_285 : decode cX14_texts 285 = .ok (.iastore, 1) := by decide +kernel
theorem dX14_texts_286 : decode cX14_texts 286 = .ok (.iinc 2 1, 3) := by decide +kernel
theorem dX14_texts_289 : decode cX14_texts 289 = .ok (.goto (-64), 3) := by decide +kernel
theorem dX14_texts_292 : decode cX14_texts 292 = .ok (.iinc 1 1, 3) := by decide +kernel
theorem dX14_texts_295 : decode cX14_texts 295 = .ok (.goto (-91), 3) := by decide +kernel
theorem dX14_texts_298 : decode cX14_texts 298 = .ok (.return_, 1) := by decide +kernel
theorem dX14_feed_0 : decode cX14_feed 0 = .ok (.aload_n 0, 1) := by decide +kernel
theorem dX14_feed_1 : decode cX14_feed 1 = .ok (.iconst 0, 1) := by decide +kernel
theorem dX14_feed_2 : decode cX14_feed 2 = .ok (.putfield 76, 3) := by decide +kernel
theorem dX14_feed_5 : decode cX14_feed 5 = .ok (.aload_n 0, 1) := by decide +kernel
theorem dX14_feed_6 : decode cX14_feed 6 = .ok (.getfield 304, 3) := by decide +kernel
theorem dX14_feed_9 : decode cX14_feed 9 = .ok (.bipush 20, 2) := by decide +kernel
theorem dX14_feed_11 : decode cX14_feed 11 = .ok (.iadd, 1) := by decide +kernel
theorem dX14_feed_12 : decode cX14_feed 12 = .ok (.sipush 600, 3) := by decide +kernel
theorem dX14_feed_15 : decode cX14_feed 15 = .ok (.if_icmp .le 5, 3) := by decide +kernel
theorem dX14_feed_18 : decode cX14_feed 18 = .ok (.iconst (-1), 1) := by decide +kernel
theorem dX14_feed_19 : decode cX14_feed 19 = .ok (.ireturn, 1) := by decide +kernel
theorem dX14_feed_20 : decode cX14_feed 20 = .ok (.iconst 0, 1) := by decide +kernel
theorem dX14_feed_21 : decode cX14_feed 21 = .ok (.istore 6, 2) := by decide +kernel
theorem dX14_feed_23 : decode cX14_feed 23 = .ok (.iload 6, 2) := by decide +kernel
theorem dX14_feed_25 : decode cX14_feed 25 = .ok (.bipush 20, 2) := by decide +kernel
theorem dX14_feed_27 : decode cX14_feed 27 = .ok (.if_icmp .ge 90, 3) := by decide +kernel
theorem dX14_feed_30 : decode cX14_feed 30 = .ok (.iload 6, 2) := by decide +kernel
theorem dX14_feed_32 : decode cX14_feed 32 = .ok (.iconst 4, 1) := by decide +kernel
theorem dX14_feed_33 : decode cX14_feed 33 = .ok (.if_icmp .ge 7, 3) := by decide +kernel
theorem dX14_feed_36 : decode cX14_feed 36 = .ok (.iload_n 1, 1) := by decide +kernel
theorem dX14_feed_37 : decode cX14_feed 37 = .ok (.goto 39, 3) := by decide +kernel
theorem dX14_feed_40 : decode cX14_feed 40 = .ok (.iload 6, 2) := by decide +kernel
theorem dX14_feed_42 : decode cX14_feed 42 = .ok (.bipush 8, 2) := by decide +kernel
theorem dX14_feed_44 : decode cX14_feed 44 = .ok (.if_icmp .ge 7, 3) := by decide +kernel
theorem dX14_feed_47 : decode cX14_feed 47 = .ok (.iload_n 2, 1) := by decide +kernel
theorem dX14_feed_48 : decode cX14_feed 48 = .ok (.goto 28, 3) := by decide +kernel
theorem dX14_feed_51 : decode cX14_feed 51 = .ok (.iload 6, 2) := by decide +kernel
theorem dX14_feed_53 : decode cX14_feed 53 = .ok (.bipush 12, 2) := by decide +kernel
theorem dX14_feed_55 : decode cX14_feed 55 = .ok (.if_icmp .ge 7, 3) := by decide +kernel
theorem dX14_feed_58 : decode cX14_feed 58 = .ok (.iload_n 3, 1) := by decide +kernel
theorem dX14_feed_59 : decode cX14_feed 59 = .ok (.goto 17, 3) := by decide +kernel
theorem dX14_feed_62 : decode cX14_feed 62 = .ok (.iload 6, 2) := by decide +kernel
theorem dX14_feed_64 : decode cX14_feed 64 = .ok (.bipush 16, 2) := by decide +kernel
theorem dX14_feed_66 : decode cX14_feed 66 = .ok (.if_icmp .ge 8, 3) := by decide +kernel
theorem dX14_feed_69 : decode cX14_feed 69 = .ok (.iload 4, 2) := by decide +kernel
theorem dX14_feed_71 : decode cX14_feed 71 = .ok (.goto 5, 3) := by decide +kernel
theorem dX14_feed_74 : decode cX14_feed 74 = .ok (.iload 5, 2) := by decide +kernel
theorem dX14_feed_76 : decode cX14_feed 76 = .ok (.istore 7, 2) := by decide +kernel
theorem dX14_feed_78 : decode cX14_feed 78 = .ok (.aload_n 0, 1) := by decide +kernel
theorem dX14_feed_79 : decode cX14_feed 79 = .ok (.getfield 33, 3) := by decide +kernel
theorem dX14_feed_82 : decode cX14_feed 82 = .ok (.aload_n 0, 1) := by decide +kernel
theorem dX14_feed_83 : decode cX14_feed 83 = .ok (.getfield 304, 3) := by decide +kernel
theorem dX14_feed_86 : decode cX14_feed 86 = .ok (.iload 7, 2) := by decide +kernel
theorem dX14_feed_88 : decode cX14_feed 88 = .ok (.bipush 24, 2) := by decide +kernel
theorem dX14_feed_90 : decode cX14_feed 90 = .ok (.bipush 8, 2) := by decide +kernel
theorem dX14_feed_92 : decode cX14_feed 92 = .ok (.iload 6, 2) := by decide +kernel
theorem dX14_feed_94 : decode cX14_feed 94 = .ok (.iconst 4, 1) := by decide +kernel
theorem dX14_feed_95 : decode cX14_feed 95 = .ok (.irem, 1) := by decide +kernel
theorem dX14_feed_96 : decode cX14_feed 96 = .ok (.imul, 1) := by decide +kernel
theorem dX14_feed_97 : decode cX14_feed 97 = .ok (.isub, 1) := by decide +kernel
theorem dX14_feed_98 : decode cX14_feed 98 = .ok (.ishr, 1) := by decide +kernel
theorem dX14_feed_99 : decode cX14_feed 99 = .ok (.i2b, 1) := by decide +kernel
theorem dX14_feed_100 : decode cX14_feed 100 = .ok (.bastore, 1) := by decide +kernel
theorem dX14_feed_101 : decode cX14_feed 101 = .ok (.aload_n 0, 1) := by decide +kernel
theorem dX14_feed_102 : decode cX14_feed 102 = .ok (.dup, 1) := by decide +kernel
theorem dX14_feed_103 : decode cX14_feed 103 = .ok (.getfield 304, 3) := by decide +kernel
theorem dX14_feed_106 : decode cX14_feed 106 = .ok (.iconst 1, 1) := by decide +kernel
theorem dX14_feed_107 : decode cX14_feed 107 = .ok (.iadd, 1) := by decide +kernel
theorem dX14_feed_108 : decode cX14_feed 108 = .ok (.putfield 304, 3) := by decide +kernel
theorem dX14_feed_111 : decode cX14_feed 111 = .ok (.iinc 6 1, 3) := by decide +kernel
theorem dX14_feed_114 : decode cX14_feed 114 = .ok (.goto (-91), 3) := by decide +kernel
theorem dX14_feed_117 : decode cX14_feed 117 = .ok (.aload_n 0, 1) := by decide +kernel
theorem dX14_feed_118 : decode cX14_feed 118 = .ok (.getfield 304, 3) := by decide +kernel
theorem dX14_feed_121 : decode cX14_feed 121 = .ok (.ireturn, 1) := by decide +kernel
theorem dX14_program_0 : decode cX14_program 0 = .ok (.aload_n 0, 1) := by decide +kernel
theorem dX14_program_1 : decode cX14_program 1 = .ok (.iconst 0, 1) := by decide +kernel
theorem dX14_program_2 : decode cX14_program 2 = .ok (.putfield 76, 3) := by decide +kernel
theorem dX14_program_5 : decode cX14_program 5 = .ok (.iload_n 1, 1) := by decide +kernel
theorem dX14_program_6 : decode cX14_program 6 = .ok (.ifCond .lt 11, 3) := by decide +kernel
theorem dX14_program_9 : decode cX14_program 9 = .ok (.iload_n 1, 1) := by decide +kernel
theorem dX14_program_10 : decode cX14_program 10 = .ok (.aload_n 0, 1) := by decide +kernel
theorem dX14_program_11 : decode cX14_program 11 = .ok (.getfield 304, 3) := by decide +kernel
theorem dX14_program_14 : decode cX14_program 14 = .ok (.if_icmp .le 9, 3) := by decide +kernel
theorem dX14_program_17 : decode cX14_program 17 = .ok (.aload_n 0, 1) := by decide +kernel
theorem dX14_program_18 : decode cX14_program 18 = .ok (.iconst 2, 1) := by decide +kernel
theorem dX14_program_19 : decode cX14_program 19 = .ok (.invokevirtual 307, 3) := by decide +kernel
theorem dX14_program_22 : decode cX14_program 22 = .ok (.ireturn, 1) := by decide +kernel
theorem dX14_program_23 : decode cX14_program 23 = .ok (.aload_n 0, 1) := by decide +kernel
theorem dX14_program_24 : decode cX14_program 24 = .ok (.iload_n 1, 1) := by decide +kernel
theorem dX14_program_25 : decode cX14_program 25 = .ok (.putfield 88, 3) := by decide +kernel
theorem dX14_program_28 : decode cX14_program 28 = .ok (.aload_n 0, 1) := by decide +kernel
theorem dX14_program_29 : decode cX14_program 29 = .ok (.iconst 0, 1) := by decide +kernel
theorem dX14_program_30 : decode cX14_program 30 = .ok (.putfield 304, 3) := by decide +kernel
theorem dX14_program_33 : decode cX14_program 33 = .ok (.aload_n 0, 1) := by decide +kernel
theorem dX14_program_34 : decode cX14_program 34 = .ok (.iconst 0, 1) := by decide +kernel
theorem dX14_program_35 : decode cX14_program 35 = .ok (.putfield 103, 3) := by decide +kernel
theorem dX14_program_38 : decode cX14_program 38 = .ok (.aload_n 0, 1) := by decide +kernel
theorem dX14_program_39 : decode cX14_program 39 = .ok (.iconst 0, 1) := by decide +kernel
theorem dX14_program_40 : decode cX14_program 40 = .ok (.putfield 310, 3) := by decide +kernel
theorem dX14_program_43 : decode cX14_program 43 = .ok (.aload_n 0, 1) := by decide +kernel
theorem dX14_program_44 : decode cX14_program 44 = .ok (.invokevirtual 313, 3) := by decide +kernel
theorem dX14_program_47 : decode cX14_program 47 = .ok (.goto 27, 3) := by decide +kernel
theorem dX14_program_50 : decode cX14_program 50 = .ok (.astore_n 2, 1) := by decide +kernel
theorem dX14_program_51 : decode cX14_program 51 = .ok (.aload_n 0, 1) := by decide +kernel
theorem dX14_program_52 : decode cX14_program 52 = .ok (.aload_n 2, 1) := by decide +kernel
theorem dX14_program_53 : decode cX14_program 53 = .ok (.getfield 82, 3) := by decide +kernel
theorem dX14_program_56 : decode cX14_program 56 = .ok (.putfield 310, 3) := by decide +kernel
theorem dX14_program_59 : decode cX14_program 59 = .ok (.aload_n 0, 1) := by decide +kernel
theorem dX14_program_60 : decode cX14_program 60 = .ok (.iconst 4, 1) := by decide +kernel
theorem dX14_program_61 : decode cX14_program 61 = .ok (.putfield 79, 3) := by decide +kernel
theorem dX14_program_64 : decode cX14_program 64 = .ok (.aload_n 0, 1) := by decide +kernel
theorem dX14_program_65 : decode cX14_program 65 = .ok (.aload_n 2, 1) := by decide +kernel
theorem dX14_program_66 : decode cX14_program 66 = .ok (.getfield 85, 3) := by decide +kernel
theorem dX14_program_69 : decode cX14_program 69 = .ok (.putfield 9, 3) := by decide +kernel
theorem dX14_program_72 : decode cX14_program 72 = .ok (.iconst (-1), 1) := by decide +kernel
theorem dX14_program_73 : decode cX14_program 73 = .ok (.ireturn, 1) := by decide +kernel
theorem dX14_program_74 : decode cX14_program 74 = .ok (.aload_n 0, 1) := by decide +kernel
theorem dX14_program_75 : decode cX14_program 75 = .ok (.invokevirtual 316, 3) := by decide +kernel
theorem dX14_program_78 : decode cX14_program 78 = .ok (.aload_n 0, 1) := by decide +kernel
theorem dX14_program_79 : decode cX14_program 79 = .ok (.getfield 20, 3) := by decide +kernel
theorem dX14_program_82 : decode cX14_program 82 = .ok (.astore_n 2, 1) := by decide +kernel
theorem dX14_program_83 : decode cX14_program 83 = .ok (.aload_n 0, 1) := by decide +kernel
theorem dX14_program_84 : decode cX14_program 84 = .ok (.aload_n 0, 1) := by decide +kernel
theorem dX14_program_85 : decode cX14_program 85 = .ok (.getfield 16, 3) := by decide +kernel
theorem dX14_program_88 : decode cX14_program 88 = .ok (.putfield 20, 3) := by decide +kernel
theorem dX14_program_91 : decode cX14_program 91 = .ok (.aload_n 0, 1) := by decide +kernel
theorem dX14_program_92 : decode cX14_program 92 = .ok (.aload_n 0, 1) := by decide +kernel
theorem dX14_program_93 : decode cX14_program 93 = .ok (.getfield 23, 3) := by decide +kernel
theorem dX14_program_96 : decode cX14_program 96 = .ok (.putfield 16, 3) := by decide +kernel
theorem dX14_program_99 : decode cX14_program 99 = .ok (.aload_n 0, 1) := by decide +kernel
theorem dX14_program_100 : decode cX14_program 100 = .ok (.aload_n 2, 1) := by decide +kernel
theorem dX14_program_101 : decode cX14_program 101 = .ok (.putfield 23, 3) := by decide +kernel
theorem dX14_program_104 : decode cX14_program 104 = .ok (.aload_n 0, 1) := by decide +kernel
theorem dX14_program_105 : decode cX14_program 105 = .ok (.aload_n 0, 1) := by decide +kernel
theorem dX14_program_106 : decode cX14_program 106 = .ok (.getfield 318, 3) := by decide +kernel
theorem dX14_program_109 : decode cX14_program 109 = .ok (.putfield 321, 3) := by decide +kernel
theorem dX14_program_112 : decode cX14_program 112 = .ok (.aload_n 0, 1) := by decide +kernel
theorem dX14_program_113 : decode cX14_program 113 = .ok (.iconst 1, 1) := by decide +kernel
theorem dX14_program_114 : decode cX14_program 114 = .ok (.putfield 318, 3) := by decide +kernel
theorem dX14_program_117 : decode cX14_program 117 = .ok (.aload_n 0, 1) := by decide +kernel
theorem dX14_program_118 : decode cX14_program 118 = .ok (.iconst 0, 1) := by decide +kernel
theorem dX14_program_119 : decode cX14_program 119 = .ok (.putfield 324, 3) := by decide +kernel
theorem dX14_program_122 : decode cX14_program 122 = .ok (.aload_n 0, 1) := by decide +kernel
theorem dX14_program_123 : decode cX14_program 123 = .ok (.iconst 0, 1) := by decide +kernel
theorem dX14_program_124 : decode cX14_program 124 = .ok (.putfield 327, 3) := by decide +kernel
theorem dX14_program_127 : decode cX14_program 127 = .ok (.aload_n 0, 1) := by decide +kernel
theorem dX14_program_128 : decode cX14_program 128 = .ok (.iconst 0, 1) := by decide +kernel
theorem dX14_program_129 : decode cX14_program 129 = .ok (.putfield 330, 3) := by decide +kernel
theorem dX14_program_132 : decode cX14_program 132 = .ok (.aload_n 0, 1) := by decide +kernel
theorem dX14_program_133 : decode cX14_program 133 = .ok (.aload_n 0, 1) := by decide +kernel
theorem dX14_program_134 : decode cX14_program 134 = .ok (.getfield 16, 3) := by decide +kernel
theorem dX14_program_137 : decode cX14_program 137 = .ok (.getfield 168, 3) := by decide +kernel
theorem dX14_program_140 : decode cX14_program 140 = .ok (.invokevirtual 333, 3) := by decide +kernel
theorem dX14_program_143 : decode cX14_program 143 = .ok (.ireturn, 1) := by decide +kernel
theorem dX14_fault_0 : decode cX14_fault 0 = .ok (.aload_n 0, 1) := by decide +kernel
theorem dX14_fault_1 : decode cX14_fault 1 = .ok (.iconst 0, 1) := by decide +kernel
theorem dX14_fault_2 : decode cX14_fault 2 = .ok (.putfield 76, 3) := by decide +kernel
theorem dX14_fault_5 : decode cX14_fault 5 = .ok (.aload_n 0, 1) := by decide +kernel
theorem dX14_fault_6 : decode cX14_fault 6 = .ok (.getfield 310, 3) := by decide +kernel
theorem dX14_fault_9 : decode cX14_fault 9 = .ok (.ireturn, 1) := by decide +kernel
theorem dX14_where_0 : decode cX14_where 0 = .ok (.aload_n 0, 1) := by decide +kernel
theorem dX14_where_1 : decode cX14_where 1 = .ok (.iconst 0, 1) := by decide +kernel
theorem dX14_where_2 : decode cX14_where 2 = .ok (.putfield 76, 3) := by decide +kernel
theorem dX14_where_5 : decode cX14_where 5 = .ok (.aload_n 0, 1) := by decide +kernel
theorem dX14_where_6 : decode cX14_where 6 = .ok (.getfield 9, 3) := by decide +kernel
theorem dX14_where_9 : decode cX14_where 9 = .ok (.ireturn, 1) := by decide +kernel
theorem dX14_isFunction_0 : decode cX14_isFunction 0 = .ok (.aload_n 0, 1) := by decide +kernel
theorem dX14_isFunction_1 : decode cX14_isFunction 1 = .ok (.getfield 318, 3) := by decide +kernel
theorem dX14_isFunction_4 : decode cX14_isFunction 4 = .ok (.ifCond .eq 22, 3) := by decide +kernel
theorem dX14_isFunction_7 : decode cX14_isFunction 7 = .ok (.iload_n 1, 1) := by decide +kernel
theorem dX14_isFunction_8 : decode cX14_isFunction 8 = .ok (.ifCond .lt 18, 3) := by decide +kernel
theorem dX14_isFunction_11 : decode cX14_isFunction 11 = .ok (.iload_n 1, 1) := by decide +kernel
theorem dX14_isFunction_12 : decode cX14_isFunction 12 = .ok (.aload_n 0, 1) := by decide +kernel
theorem dX14_isFunction_13 : decode cX14_isFunction 13 = .ok (.getfield 16, 3) := by decide +kernel
theorem dX14_isFunction_16 : decode cX14_isFunction 16 = .ok (.getfield 168, 3) := by decide +kernel
theorem dX14_isFunction_19 : decode cX14_isFunction 19 = .ok (.if_icmp .ge 7, 3) := by decide +kernel
theorem dX14_isFunction_22 : decode cX14_isFunction 22 = .ok (.iconst 1, 1) := by decide +kernel
theorem dX14_isFunction_23 : decode cX14_isFunction 23 = .ok (.goto 4, 3) := by decide +kernel
theorem dX14_isFunction_26 : decode cX14_isFunction 26 = .ok (.iconst 0, 1) := by decide +kernel
theorem dX14_isFunction_27 : decode cX14_isFunction 27 = .ok (.ireturn, 1) := by decide +kernel
theorem dX14_isLine_0 : decode cX14_isLine 0 = .ok (.aload_n 0, 1) := by decide +kernel
theorem dX14_isLine_1 : decode cX14_isLine 1 = .ok (.getfield 318, 3) := by decide +kernel
theorem dX14_isLine_4 : decode cX14_isLine 4 = .ok (.ifCond .eq 22, 3) := by decide +kernel
theorem dX14_isLine_7 : decode cX14_isLine 7 = .ok (.iload_n 1, 1) := by decide +kernel
theorem dX14_isLine_8 : decode cX14_isLine 8 = .ok (.ifCond .lt 18, 3) := by decide +kernel
theorem dX14_isLine_11 : decode cX14_isLine 11 = .ok (.iload_n 1, 1) := by decide +kernel
theorem dX14_isLine_12 : decode cX14_isLine 12 = .ok (.aload_n 0, 1) := by decide +kernel
theorem dX14_isLine_13 : decode cX14_isLine 13 = .ok (.getfield 16, 3) := by decide +kernel
theorem dX14_isLine_16 : decode cX14_isLine 16 = .ok (.getfield 171, 3) := by decide +kernel
theorem dX14_isLine_19 : decode cX14_isLine 19 = .ok (.if_icmp .ge 7, 3) := by decide +kernel
theorem dX14_isLine_22 : decode cX14_isLine 22 = .ok (.iconst 1, 1) := by decide +kernel
theorem dX14_isLine_23 : decode cX14_isLine 23 = .ok (.goto 4, 3) := by decide +kernel
theorem dX14_isLine_26 : decode cX14_isLine 26 = .ok (.iconst 0, 1) := by decide +kernel
theorem dX14_isLine_27 : decode cX14_isLine 27 = .ok (.ireturn, 1) := by decide +kernel
theorem dX14_function_0 : decode cX14_function 0 = .ok (.aload_n 0, 1) := by decide +kernel
theorem dX14_function_1 : decode cX14_function 1 = .ok (.iconst 0, 1) := by decide +kernel
theorem dX14_function_2 : decode cX14_function 2 = .ok (.putfield 76, 3) := by decide +kernel
theorem dX14_function_5 : decode cX14_function 5 = .ok (.aload_n 0, 1) := by decide +kernel
theorem dX14_function_6 : decode cX14_function 6 = .ok (.iload_n 1, 1) := by decide +kernel
theorem dX14_function_7 : decode cX14_function 7 = .ok (.invokevirtual 336, 3) := by decide +kernel
theorem dX14_function_10 : decode cX14_function 10 = .ok (.ifCond .ne 5, 3) := by decide +kernel
theorem dX14_function_13 : decode cX14_function 13 = .ok (.iconst (-1), 1) := by decide +kernel
theorem dX14_function_14 : decode cX14_function 14 = .ok (.ireturn, 1) := by decide +kernel
theorem dX14_function_15 : decode cX14_function 15 = .ok (.iload_n 2, 1) := by decide +kernel
theorem dX14_function_16 : decode cX14_function 16 = .ok (.tableswitch 72 0 3 #[32, 42, 52, 62], 32) := by decide +kernel
theorem dX14_function_48 : decode cX14_function 48 = .ok (.aload_n 0, 1) := by decide +kernel
theorem dX14_function_49 : decode cX14_function 49 = .ok (.getfield 16, 3) := by decide +kernel
theorem dX14_function_52 : decode cX14_function 52 = .ok (.getfield 196, 3) := by decide +kernel
theorem dX14_function_55 : decode cX14_function 55 = .ok (.iload_n 1, 1) := by decide +kernel
theorem dX14_function_56 : decode cX14_function 56 = .ok (.iaload, 1) := by decide +kernel
theorem dX14_function_57 : decode cX14_function 57 = .ok (.ireturn, 1) := by decide +kernel
theorem dX14_function_58 : decode cX14_function 58 = .ok (.aload_n 0, 1) := by decide +kernel
theorem dX14_function_59 : decode cX14_function 59 = .ok (.getfield 16, 3) := by decide +kernel
theorem dX14_function_62 : decode cX14_function 62 = .ok (.getfield 230, 3) := by decide +kernel
theorem dX14_function_65 : decode cX14_function 65 = .ok (.iload_n 1, 1) := by decide +kernel
theorem dX14_function_66 : decode cX14_function 66 = .ok (.iaload, 1) := by decide +kernel
theorem dX14_function_67 : decode cX14_function 67 = .ok (.ireturn, 1) := by decide +kernel
theorem dX14_function_68 : decode cX14_function 68 = .ok (.aload_n 0, 1) := by decide +kernel
theorem dX14_function_69 : decode cX14_function 69 = .ok (.getfield 16, 3) := by decide +kernel
theorem dX14_function_72 : decode cX14_function 72 = .ok (.getfield 237, 3) := by decide +kernel
theorem dX14_function_75 : decode cX14_function 75 = .ok (.iload_n 1, 1) := by decide +kernel
theorem dX14_function_76 : decode cX14_function 76 = .ok (.iaload, 1) := by decide +kernel
theorem dX14_function_77 : decode cX14_function 77 = .ok (.ireturn, 1) := by decide +kernel
theorem dX14_function_78 : decode cX14_function 78 = .ok (.aload_n 0, 1) := by decide +kernel
theorem dX14_function_79 : decode cX14_function 79 = .ok (.getfield 16, 3) := by decide +kernel
theorem dX14_function_82 : decode cX14_function 82 = .ok (.getfield 301, 3) := by decide +kernel
theorem dX14_function_85 : decode cX14_function 85 = .ok (.iload_n 1, 1) := by decide +kernel
theorem dX14_function_86 : decode cX14_function 86 = .ok (.iaload, 1) := by decide +kernel
theorem dX14_function_87 : decode cX14_function 87 = .ok (.ireturn, 1) := by decide +kernel
theorem dX14_function_88 : decode cX14_function 88 = .ok (.iconst (-1), 1) := by decide +kernel
theorem dX14_function_89 : decode cX14_function 89 = .ok (.ireturn, 1) := by decide +kernel
theorem dX14_name_0 : decode cX14_name 0 = .ok (.aload_n 0, 1) := by decide +kernel
theorem dX14_name_1 : decode cX14_name 1 = .ok (.aload_n 0, 1) := by decide +kernel
theorem dX14_name_2 : decode cX14_name 2 = .ok (.iload_n 1, 1) := by decide +kernel
theorem dX14_name_3 : decode cX14_name 3 = .ok (.invokevirtual 336, 3) := by decide +kernel
theorem dX14_name_6 : decode cX14_name 6 = .ok (.ifCond .eq 20, 3) := by decide +kernel
theorem dX14_name_9 : decode cX14_name 9 = .ok (.iload_n 2, 1) := by decide +kernel
theorem dX14_name_10 : decode cX14_name 10 = .ok (.ifCond .lt 16, 3) := by decide +kernel
theorem dX14_name_13 : decode cX14_name 13 = .ok (.iload_n 2, 1) := by decide +kernel
theorem dX14_name_14 : decode cX14_name 14 = .ok (.aload_n 0, 1) := by decide +kernel
theorem dX14_name_15 : decode cX14_name 15 = .ok (.getfield 16, 3) := by decide +kernel
theorem dX14_name_18 : decode cX14_name 18 = .ok (.getfield 218, 3) := by decide +kernel
theorem dX14_name_21 : decode cX14_name 21 = .ok (.iload_n 1, 1) := by decide +kernel
theorem dX14_name_22 : decode cX14_name 22 = .ok (.iaload, 1) := by decide +kernel
theorem dX14_name_23 : decode cX14_name 23 = .ok (.if_icmp .lt 7, 3) := by decide +kernel
theorem dX14_name_26 : decode cX14_name 26 = .ok (.iconst 1, 1) := by decide +kernel
theorem dX14_name_27 : decode cX14_name 27 = .ok (.goto 4, 3) := by decide +kernel
theorem dX14_name_30 : decode cX14_name 30 = .ok (.iconst 0, 1) := by decide +kernel
theorem dX14_name_31 : decode cX14_name 31 = .ok (.putfield 76, 3) := by decide +kernel
theorem dX14_name_34 : decode cX14_name 34 = .ok (.aload_n 0, 1) := by decide +kernel
theorem dX14_name_35 : decode cX14_name 35 = .ok (.getfield 76, 3) := by decide +kernel
theorem dX14_name_38 : decode cX14_name 38 = .ok (.ifCond .le 5, 3) := by decide +kernel
theorem dX14_name_41 : decode cX14_name 41 = .ok (.iconst 0, 1) := by decide +kernel
theorem dX14_name_42 : decode cX14_name 42 = .ok (.ireturn, 1) := by decide +kernel
theorem dX14_name_43 : decode cX14_name 43 = .ok (.bipush 96, 2) := by decide +kernel
theorem dX14_name_45 : decode cX14_name 45 = .ok (.aload_n 0, 1) := by decide +kernel
theorem dX14_name_46 : decode cX14_name 46 = .ok (.getfield 16, 3) := by decide +kernel
theorem dX14_name_49 : decode cX14_name 49 = .ok (.getfield 215, 3) := by decide +kernel
theorem dX14_name_52 : decode cX14_name 52 = .ok (.iload_n 1, 1) := by decide +kernel
theorem dX14_name_53 : decode cX14_name 53 = .ok (.laload, 1) := by decide +kernel
theorem dX14_name_54 : decode cX14_name 54 = .ok (.iconst 5, 1) := by decide +kernel
theorem dX14_name_55 : decode cX14_name 55 = .ok (.aload_n 0, 1) := by decide +kernel
theorem dX14_name_56 : decode cX14_name 56 = .ok (.getfield 16, 3) := by decide +kernel
theorem dX14_name_59 : decode cX14_name 59 = .ok (.getfield 218, 3) := by decide +kernel
theorem dX14_name_62 : decode cX14_name 62 = .ok (.iload_n 1, 1) := by decide +kernel
theorem dX14_name_63 : decode cX14_name 63 = .ok (.iaload, 1) := by decide +kernel
theorem dX14_name_64 : decode cX14_name 64 = .ok (.iconst 1, 1) := by decide +kernel
theorem dX14_name_65 : decode cX14_name 65 = .ok (.isub, 1) := by decide +kernel
theorem dX14_name_66 : decode cX14_name 66 = .ok (.iload_n 2, 1) := by decide +kernel
theorem dX14_name_67 : decode cX14_name 67 = .ok (.isub, 1) := by decide +kernel
theorem dX14_name_68 : decode cX14_name 68 = .ok (.imul, 1) := by decide +kernel
theorem dX14_name_69 : decode cX14_name 69 = .ok (.lshr, 1) := by decide +kernel
theorem dX14_name_70 : decode cX14_name 70 = .ok (.ldc2_w 339, 3) := by decide +kernel
theorem dX14_name_73 : decode cX14_name 73 = .ok (.land, 1) := by decide +kernel
theorem dX14_name_74 : decode cX14_name 74 = .ok (.l2i, 1) := by decide +kernel
theorem dX14_name_75 : decode cX14_name 75 = .ok (.iadd, 1) := by decide +kernel
theorem dX14_name_76 : decode cX14_name 76 = .ok (.ireturn, 1) := by decide +kernel
theorem dX14_line_0 : decode cX14_line 0 = .ok (.aload_n 0, 1) := by decide +kernel
theorem dX14_line_1 : decode cX14_line 1 = .ok (.iconst 0, 1) := by decide +kernel
theorem dX14_line_2 : decode cX14_line 2 = .ok (.putfield 76, 3) := by decide +kernel
theorem dX14_line_5 : decode cX14_line 5 = .ok (.aload_n 0, 1) := by decide +kernel
theorem dX14_line_6 : decode cX14_line 6 = .ok (.iload_n 1, 1) := by decide +kernel
theorem dX14_line_7 : decode cX14_line 7 = .ok (.invokevirtual 341, 3) := by decide +kernel
theorem dX14_line_10 : decode cX14_line 10 = .ok (.ifCond .ne 5, 3) := by decide +kernel
theorem dX14_line_13 : decode cX14_line 13 = .ok (.iconst (-1), 1) := by decide +kernel
theorem dX14_line_14 : decode cX14_line 14 = .ok (.ireturn, 1) := by decide +kernel
theorem dX14_line_15 : decode cX14_line 15 = .ok (.iload_n 2, 1) := by decide +kernel
theorem dX14_line_16 : decode cX14_line 16 = .ok (.tableswitch 72 0 3 #[32, 42, 52, 62], 32) := by decide +kernel
theorem dX14_line_48 : decode cX14_line 48 = .ok (.aload_n 0, 1) := by decide +kernel
theorem dX14_line_49 : decode cX14_line 49 = .ok (.getfield 16, 3) := by decide +kernel
theorem dX14_line_52 : decode cX14_line 52 = .ok (.getfield 248, 3) := by decide +kernel
theorem dX14_line_55 : decode cX14_line 55 = .ok (.iload_n 1, 1) := by decide +kernel
theorem dX14_line_56 : decode cX14_line 56 = .ok (.iaload, 1) := by decide +kernel
theorem dX14_line_57 : decode cX14_line 57 = .ok (.ireturn, 1) := by decide +kernel
theorem dX14_line_58 : decode cX14_line 58 = .ok (.aload_n 0, 1) := by decide +kernel
theorem dX14_line_59 : decode cX14_line 59 = .ok (.getfield 16, 3) := by decide +kernel
theorem dX14_line_62 : decode cX14_line 62 = .ok (.getfield 250, 3) := by decide +kernel
theorem dX14_line_65 : decode cX14_line 65 = .ok (.iload_n 1, 1) := by decide +kernel
theorem dX14_line_66 : decode cX14_line 66 = .ok (.iaload, 1) := by decide +kernel
theorem dX14_line_67 : decode cX14_line 67 = .ok (.ireturn, 1) := by decide +kernel
theorem dX14_line_68 : decode cX14_line 68 = .ok (.aload_n 0, 1) := by decide +kernel
theorem dX14_line_69 : decode cX14_line 69 = .ok (.getfield 16, 3) := by decide +kernel
theorem dX14_line_72 : decode cX14_line 72 = .ok (.getfield 253, 3) := by decide +kernel
theorem dX14_line_75 : decode cX14_line 75 = .ok (.iload_n 1, 1) := by decide +kernel
theorem dX14_line_76 : decode cX14_line 76 = .ok (.iaload, 1) := by decide +kernel
theorem dX14_line_77 : decode cX14_line 77 = .ok (.ireturn, 1) := by decide +kernel
theorem dX14_line_78 : decode cX14_line 78 = .ok (.aload_n 0, 1) := by decide +kernel
theorem dX14_line_79 : decode cX14_line 79 = .ok (.getfield 16, 3) := by decide +kernel
theorem dX14_line_82 : decode cX14_line 82 = .ok (.getfield 255, 3) := by decide +kernel
theorem dX14_line_85 : decode cX14_line 85 = .ok (.iload_n 1, 1) := by decide +kernel
theorem dX14_line_86 : decode cX14_line 86 = .ok (.iaload, 1) := by decide +kernel
theorem dX14_line_87 : decode cX14_line 87 = .ok (.ireturn, 1) := by decide +kernel
theorem dX14_line_88 : decode cX14_line 88 = .ok (.iconst (-1), 1) := by decide +kernel
theorem dX14_line_89 : decode cX14_line 89 = .ok (.ireturn, 1) := by decide +kernel
theorem dX14_runs_0 : decode cX14_runs 0 = .ok (.aload_n 0, 1) := by decide +kernel
theorem dX14_runs_1 : decode cX14_runs 1 = .ok (.iload 5, 2) := by decide +kernel
theorem dX14_runs_3 : decode cX14_runs 3 = .ok (.putfield 344, 3) := by decide +kernel
theorem dX14_runs_6 : decode cX14_runs 6 = .ok (.aload_n 0, 1) := by decide +kernel
theorem dX14_runs_7 : decode cX14_runs 7 = .ok (.iload 6, 2) := by decide +kernel
theorem dX14_runs_9 : decode cX14_runs 9 = .ok (.putfield 347, 3) := by decide +kernel
theorem dX14_runs_12 : decode cX14_runs 12 = .ok (.aload_n 0, 1) := by decide +kernel
theorem dX14_runs_13 : decode cX14_runs 13 = .ok (.getfield 44, 3) := by decide +kernel
theorem dX14_runs_16 : decode cX14_runs 16 = .ok (.iconst 0, 1) := by decide +kernel
theorem dX14_runs_17 : decode cX14_runs 17 = .ok (.putfield 350, 3) := by decide +kernel
theorem dX14_runs_20 : decode cX14_runs 20 = .ok (.aload_n 0, 1) := by decide +kernel
theorem dX14_runs_21 : decode cX14_runs 21 = .ok (.getfield 44, 3) := by decide +kernel
theorem dX14_runs_24 : decode cX14_runs 24 = .ok (.iconst 0, 1) := by decide +kernel
theorem dX14_runs_25 : decode cX14_runs 25 = .ok (.putfield 352, 3) := by decide +kernel
theorem dX14_runs_28 : decode cX14_runs 28 = .ok (.aload_n 0, 1) := by decide +kernel
theorem dX14_runs_29 : decode cX14_runs 29 = .ok (.getfield 44, 3) := by decide +kernel
theorem dX14_runs_32 : decode cX14_runs 32 = .ok (.iconst 0, 1) := by decide +kernel
theorem dX14_runs_33 : decode cX14_runs 33 = .ok (.putfield 354, 3) := by decide +kernel
theorem dX14_runs_36 : decode cX14_runs 36 = .ok (.aload_n 0, 1) := by decide +kernel
theorem dX14_runs_37 : decode cX14_runs 37 = .ok (.getfield 44, 3) := by decide +kernel
theorem dX14_runs_40 : decode cX14_runs 40 = .ok (.iconst 0, 1) := by decide +kernel
theorem dX14_runs_41 : decode cX14_runs 41 = .ok (.putfield 357, 3) := by decide +kernel
theorem dX14_runs_44 : decode cX14_runs 44 = .ok (.aload_n 0, 1) := by decide +kernel
theorem dX14_runs_45 : decode cX14_runs 45 = .ok (.getfield 44, 3) := by decide +kernel
theorem dX14_runs_48 : decode cX14_runs 48 = .ok (.iconst 0, 1) := by decide +kernel
theorem dX14_runs_49 : decode cX14_runs 49 = .ok (.putfield 360, 3) := by decide +kernel
theorem dX14_runs_52 : decode cX14_runs 52 = .ok (.aload_n 0, 1) := by decide +kernel
theorem dX14_runs_53 : decode cX14_runs 53 = .ok (.getfield 44, 3) := by decide +kernel
theorem dX14_runs_56 : decode cX14_runs 56 = .ok (.iconst 0, 1) := by decide +kernel
theorem dX14_runs_57 : decode cX14_runs 57 = .ok (.putfield 363, 3) := by decide +kernel
theorem dX14_runs_60 : decode cX14_runs 60 = .ok (.aload_n 0, 1) := by decide +kernel
theorem dX14_runs_61 : decode cX14_runs 61 = .ok (.getfield 44, 3) := by decide +kernel
theorem dX14_runs_64 : decode cX14_runs 64 = .ok (.lconst 0, 1) := by decide +kernel
theorem dX14_runs_65 : decode cX14_runs 65 = .ok (.putfield 366, 3) := by decide +kernel
theorem dX14_runs_68 : decode cX14_runs 68 = .ok (.aload_n 0, 1) := by decide +kernel
theorem dX14_runs_69 : decode cX14_runs 69 = .ok (.iconst 0, 1) := by decide +kernel
theorem dX14_runs_70 : decode cX14_runs 70 = .ok (.putfield 369, 3) := by decide +kernel
theorem dX14_runs_73 : decode cX14_runs 73 = .ok (.aload_n 0, 1) := by decide +kernel
theorem dX14_runs_74 : decode cX14_runs 74 = .ok (.getfield 47, 3) := by decide +kernel
theorem dX14_runs_77 : decode cX14_runs 77 = .ok (.iconst 0, 1) := by decide +kernel
theorem dX14_runs_78 : decode cX14_runs 78 = .ok (.iload_n 2, 1) := by decide +kernel
theorem dX14_runs_79 : decode cX14_runs 79 = .ok (.iastore, 1) := by decide +kernel
theorem dX14_runs_80 : decode cX14_runs 80 = .ok (.aload_n 0, 1) := by decide +kernel
theorem dX14_runs_81 : decode cX14_runs 81 = .ok (.getfield 47, 3) := by decide +kernel
theorem dX14_runs_84 : decode cX14_runs 84 = .ok (.iconst 1, 1) := by decide +kernel
theorem dX14_runs_85 : decode cX14_runs 85 = .ok (.iload_n 3, 1) := by decide +kernel
theorem dX14_runs_86 : decode cX14_runs 86 = .ok (.iastore, 1) := by decide +kernel
theorem dX14_runs_87 : decode cX14_runs 87 = .ok (.aload_n 0, 1) := by decide +kernel
theorem dX14_runs_88 : decode cX14_runs 88 = .ok (.getfield 47, 3) := by decide +kernel
theorem dX14_runs_91 : decode cX14_runs 91 = .ok (.iconst 2, 1) := by decide +kernel
theorem dX14_runs_92 : decode cX14_runs 92 = .ok (.iload 4, 2) := by decide +kernel
theorem dX14_runs_94 : decode cX14_runs 94 = .ok (.iastore, 1) := by decide +kernel
theorem dX14_runs_95 : decode cX14_runs 95 = .ok (.aload_n 0, 1) := by decide +kernel
theorem dX14_runs_96 : decode cX14_runs 96 = .ok (.aload_n 0, 1) := by decide +kernel
theorem dX14_runs_97 : decode cX14_runs 97 = .ok (.getfield 16, 3) := by decide +kernel
theorem dX14_runs_100 : decode cX14_runs 100 = .ok (.getfield 196, 3) := by decide +kernel
theorem dX14_runs_103 : decode cX14_runs 103 = .ok (.iload_n 1, 1) := by decide +kernel
theorem dX14_runs_104 : decode cX14_runs 104 = .ok (.iaload, 1) := by decide +kernel
theorem dX14_runs_105 : decode cX14_runs 105 = .ok (.putfield 372, 3) := by decide +kernel
theorem dX14_runs_108 : decode cX14_runs 108 = .ok (.aload_n 0, 1) := by decide +kernel
theorem dX14_runs_109 : decode cX14_runs 109 = .ok (.getfield 44, 3) := by decide +kernel
theorem dX14_runs_112 : decode cX14_runs 112 = .ok (.aload_n 0, 1) := by decide +kernel
theorem dX14_runs_113 : decode cX14_runs 113 = .ok (.iload_n 1, 1) := by decide +kernel
theorem dX14_runs_114 : decode cX14_runs 114 = .ok (.invokevirtual 375, 3) := by decide +kernel
theorem dX14_runs_117 : decode cX14_runs 117 = .ok (.putfield 352, 3) := by decide +kernel
theorem dX14_runs_120 : decode cX14_runs 120 = .ok (.goto 17, 3) := by decide +kernel
theorem dX14_runs_123 : decode cX14_runs 123 = .ok (.astore 7, 2) := by decide +kernel
theorem dX14_runs_125 : decode cX14_runs 125 = .ok (.aload_n 0, 1) := by decide +kernel
theorem dX14_runs_126 : decode cX14_runs 126 = .ok (.getfield 44, 3) := by decide +kernel
theorem dX14_runs_129 : decode cX14_runs 129 = .ok (.aload 7, 2) := by decide +kernel
theorem dX14_runs_131 : decode cX14_runs 131 = .ok (.getfield 82, 3) := by decide +kernel
theorem dX14_runs_134 : decode cX14_runs 134 = .ok (.putfield 350, 3) := by decide +kernel
theorem dX14_runs_137 : decode cX14_runs 137 = .ok (.return_, 1) := by decide +kernel
theorem dX14_calls_0 : decode cX14_calls 0 = .ok (.aload_n 0, 1) := by decide +kernel
theorem dX14_calls_1 : decode cX14_calls 1 = .ok (.getfield 369, 3) := by decide +kernel
theorem dX14_calls_4 : decode cX14_calls 4 = .ok (.bipush 8, 2) := by decide +kernel
theorem dX14_calls_6 : decode cX14_calls 6 = .ok (.if_icmp .ne 10, 3) := by decide +kernel
theorem dX14_calls_9 : decode cX14_calls 9 = .ok (.aload_n 0, 1) := by decide +kernel
theorem dX14_calls_10 : decode cX14_calls 10 = .ok (.iconst 2, 1) := by decide +kernel
theorem dX14_calls_11 : decode cX14_calls 11 = .ok (.iconst (-1), 1) := by decide +kernel
theorem dX14_calls_12 : decode cX14_calls 12 = .ok (.invokevirtual 144, 3) := by decide +kernel
theorem dX14_calls_15 : decode cX14_calls 15 = .ok (.athrow, 1) := by decide +kernel
theorem dX14_calls_16 : decode cX14_calls 16 = .ok (.bipush 8, 2) := by decide +kernel
theorem dX14_calls_18 : decode cX14_calls 18 = .ok (.aload_n 0, 1) := by decide +kernel
theorem dX14_calls_19 : decode cX14_calls 19 = .ok (.getfield 369, 3) := by decide +kernel
theorem dX14_calls_22 : decode cX14_calls 22 = .ok (.imul, 1) := by decide +kernel
theorem dX14_calls_23 : decode cX14_calls 23 = .ok (.istore_n 2, 1) := by decide +kernel
theorem dX14_calls_24 : decode cX14_calls 24 = .ok (.aload_n 0, 1) := by decide +kernel
theorem dX14_calls_25 : decode cX14_calls 25 = .ok (.dup, 1) := by decide +kernel
theorem dX14_calls_26 : decode cX14_calls 26 = .ok (.getfield 369, 3) := by decide +kernel
theorem dX14_calls_29 : decode cX14_calls 29 = .ok (.iconst 1, 1) := by decide +kernel
theorem dX14_calls_30 : decode cX14_calls 30 = .ok (.iadd, 1) := by decide +kernel
theorem dX14_calls_31 : decode cX14_calls 31 = .ok (.putfield 369, 3) := by decide +kernel
theorem dX14_calls_34 : decode cX14_calls 34 = .ok (.aload_n 0, 1) := by decide +kernel
theorem dX14_calls_35 : decode cX14_calls 35 = .ok (.getfield 44, 3) := by decide +kernel
theorem dX14_calls_38 : decode cX14_calls 38 = .ok (.aload_n 0, 1) := by decide +kernel
theorem dX14_calls_39 : decode cX14_calls 39 = .ok (.getfield 44, 3) := by decide +kernel
theorem dX14_calls_42 : decode cX14_calls 42 = .ok (.getfield 363, 3) := by decide +kernel
theorem dX14_calls_45 : decode cX14_calls 45 = .ok (.aload_n 0, 1) := by decide +kernel
theorem dX14_calls_46 : decode cX14_calls 46 = .ok (.getfield 369, 3) := by decide +kernel
theorem dX14_calls_49 : decode cX14_calls 49 = .ok (.invokestatic 377, 3) := by decide +kernel
theorem dX14_calls_52 : decode cX14_calls 52 = .ok (.putfield 363, 3) := by decide +kernel
theorem dX14_calls_55 : decode cX14_calls 55 = .ok (.iconst 0, 1) := by decide +kernel
theorem dX14_calls_56 : decode cX14_calls 56 = .ok (.istore_n 3, 1) := by decide +kernel
theorem dX14_calls_57 : decode cX14_calls 57 = .ok (.iload_n 3, 1) := by decide +kernel
theorem dX14_calls_58 : decode cX14_calls 58 = .ok (.bipush 8, 2) := by decide +kernel
theorem dX14_calls_60 : decode cX14_calls 60 = .ok (.if_icmp .ge 21, 3) := by decide +kernel
theorem dX14_calls_63 : decode cX14_calls 63 = .ok (.aload_n 0, 1) := by decide +kernel
theorem dX14_calls_64 : decode cX14_calls 64 = .ok (.getfield 44, 3) := by decide +kernel
theorem dX14_calls_67 : decode cX14_calls 67 = .ok (.getfield 382, 3) := by decide +kernel
theorem dX14_calls_70 : decode cX14_calls 70 = .ok (.iload_n 2, 1) := by decide +kernel
theorem dX14_calls_71 : decode cX14_calls 71 = .ok (.iload_n 3, 1) := by decide +kernel
theorem dX14_calls_72 : decode cX14_calls 72 = .ok (.iadd, 1) := by decide +kernel
theorem dX14_calls_73 : decode cX14_calls 73 = .ok (.iconst 0, 1) := by decide +kernel
theorem dX14_calls_74 : decode cX14_calls 74 = .ok (.iastore, 1) := by decide +kernel
theorem dX14_calls_75 : decode cX14_calls 75 = .ok (.iinc 3 1, 3) := by decide +kernel
theorem dX14_calls_78 : decode cX14_calls 78 = .ok (.goto (-21), 3) := by decide +kernel
theorem dX14_calls_81 : decode cX14_calls 81 = .ok (.aload_n 0, 1) := by decide +kernel
theorem dX14_calls_82 : decode cX14_calls 82 = .ok (.dup, 1) := by decide +kernel
theorem dX14_calls_83 : decode cX14_calls 83 = .ok (.getfield 372, 3) := by decide +kernel
theorem dX14_calls_86 : decode cX14_calls 86 = .ok (.aload_n 0, 1) := by decide +kernel
theorem dX14_calls_87 : decode cX14_calls 87 = .ok (.getfield 16, 3) := by decide +kernel
theorem dX14_calls_90 : decode cX14_calls 90 = .ok (.getfield 196, 3) := by decide +kernel
theorem dX14_calls_93 : decode cX14_calls 93 = .ok (.iload_n 1, 1) := by decide +kernel
theorem dX14_calls_94 : decode cX14_calls 94 = .ok (.iaload, 1) := by decide +kernel
theorem dX14_calls_95 : decode cX14_calls 95 = .ok (.isub, 1) := by decide +kernel
theorem dX14_calls_96 : decode cX14_calls 96 = .ok (.putfield 372, 3) := by decide +kernel
theorem dX14_calls_99 : decode cX14_calls 99 = .ok (.iconst 0, 1) := by decide +kernel
theorem dX14_calls_100 : decode cX14_calls 100 = .ok (.istore_n 3, 1) := by decide +kernel
theorem dX14_calls_101 : decode cX14_calls 101 = .ok (.iload_n 3, 1) := by decide +kernel
theorem dX14_calls_102 : decode cX14_calls 102 = .ok (.aload_n 0, 1) := by decide +kernel
theorem dX14_calls_103 : decode cX14_calls 103 = .ok (.getfield 16, 3) := by decide +kernel
theorem dX14_calls_106 : decode cX14_calls 106 = .ok (.getfield 196, 3) := by decide +kernel
theorem dX14_calls_109 : decode cX14_calls 109 = .ok (.iload_n 1, 1) := by decide +kernel
theorem dX14_calls_110 : decode cX14_calls 110 = .ok (.iaload, 1) := by decide +kernel
theorem dX14_calls_111 : decode cX14_calls 111 = .ok (.if_icmp .ge 43, 3) := by decide +kernel
theorem dX14_calls_114 : decode cX14_calls 114 = .ok (.aload_n 0, 1) := by decide +kernel
theorem dX14_calls_115 : decode cX14_calls 115 = .ok (.getfield 44, 3) := by decide +kernel
theorem dX14_calls_118 : decode cX14_calls 118 = .ok (.getfield 382, 3) := by decide +kernel
theorem dX14_calls_121 : decode cX14_calls 121 = .ok (.iload_n 2, 1) := by decide +kernel
theorem dX14_calls_122 : decode cX14_calls 122 = .ok (.aload_n 0, 1) := by decide +kernel
theorem dX14_calls_123 : decode cX14_calls 123 = .ok (.getfield 16, 3) := by decide +kernel
theorem dX14_calls_126 : decode cX14_calls 126 = .ok (.getfield 228, 3) := by decide +kernel
theorem dX14_calls_129 : decode cX14_calls 129 = .ok (.iconst 3, 1) := by decide +kernel
theorem dX14_calls_130 : decode cX14_calls 130 = .ok (.iload_n 1, 1) := by decide +kernel
theorem dX14_calls_131 : decode cX14_calls 131 = .ok (.imul, 1) := by decide +kernel
theorem dX14_calls_132 : decode cX14_calls 132 = .ok (.iload_n 3, 1) := by decide +kernel
theorem dX14_calls_133 : decode cX14_calls 133 = .ok (.iadd, 1) := by decide +kernel
theorem dX14_calls_134 : decode cX14_calls 134 = .ok (.iaload, 1) := by decide +kernel
theorem dX14_calls_135 : decode cX14_calls 135 = .ok (.iadd, 1) := by decide +kernel
theorem dX14_calls_136 : decode cX14_calls 136 = .ok (.aload_n 0, 1) := by decide +kernel
theorem dX14_calls_137 : decode cX14_calls 137 = .ok (.getfield 47, 3) := by decide +kernel
theorem dX14_calls_140 : decode cX14_calls 140 = .ok (.aload_n 0, 1) := by decide +kernel
theorem dX14_calls_141 : decode cX14_calls 141 = .ok (.getfield 372, 3) := by decide +kernel
theorem dX14_calls_144 : decode cX14_calls 144 = .ok (.iload_n 3, 1) := by decide +kernel
theorem dX14_calls_145 : decode cX14_calls 145 = .ok (.iadd, 1) := by decide +kernel
theorem dX14_calls_146 : decode cX14_calls 146 = .ok (.iaload, 1) := by decide +kernel
theorem dX14_calls_147 : decode cX14_calls 147 = .ok (.iastore, 1) := by decide +kernel
theorem dX14_calls_148 : decode cX14_calls 148 = .ok (.iinc 3 1, 3) := by decide +kernel
theorem dX14_calls_151 : decode cX14_calls 151 = .ok (.goto (-50), 3) := by decide +kernel
theorem dX14_calls_154 : decode cX14_calls 154 = .ok (.aload_n 0, 1) := by decide +kernel
theorem dX14_calls_155 : decode cX14_calls 155 = .ok (.getfield 16, 3) := by decide +kernel
theorem dX14_calls_158 : decode cX14_calls 158 = .ok (.getfield 230, 3) := by decide +kernel
theorem dX14_calls_161 : decode cX14_calls 161 = .ok (.iload_n 1, 1) := by decide +kernel
theorem dX14_calls_162 : decode cX14_calls 162 = .ok (.iaload, 1) := by decide +kernel
theorem dX14_calls_163 : decode cX14_calls 163 = .ok (.istore_n 3, 1) := by decide +kernel
theorem dX14_calls_164 : decode cX14_calls 164 = .ok (.iload_n 3, 1) := by decide +kernel
theorem dX14_calls_165 : decode cX14_calls 165 = .ok (.iconst (-1), 1) := by decide +kernel
theorem dX14_calls_166 : decode cX14_calls 166 = .ok (.if_icmp .eq 261, 3) := by decide +kernel
theorem dX14_calls_169 : decode cX14_calls 169 = .ok (.aload_n 0, 1) := by decide +kernel
theorem dX14_calls_170 : decode cX14_calls 170 = .ok (.getfield 44, 3) := by decide +kernel
theorem dX14_calls_173 : decode cX14_calls 173 = .ok (.getfield 354, 3) := by decide +kernel
theorem dX14_calls_176 : decode cX14_calls 176 = .ok (.aload_n 0, 1) := by decide +kernel
theorem dX14_calls_177 : decode cX14_calls 177 = .ok (.getfield 344, 3) := by decide +kernel
theorem dX14_calls_180 : decode cX14_calls 180 = .ok (.if_icmp .ne 10, 3) := by decide +kernel
theorem dX14_calls_183 : decode cX14_calls 183 = .ok (.aload_n 0, 1) := by decide +kernel
theorem dX14_calls_184 : decode cX14_calls 184 = .ok (.iconst 1, 1) := by decide +kernel
theorem dX14_calls_185 : decode cX14_calls 185 = .ok (.iconst (-1), 1) := by decide +kernel
theorem dX14_calls_186 : decode cX14_calls 186 = .ok (.invokevirtual 144, 3) := by decide +kernel
theorem dX14_calls_189 : decode cX14_calls 189 = .ok (.athrow, 1) := by decide +kernel
theorem dX14_calls_190 : decode cX14_calls 190 = .ok (.aload_n 0, 1) := by decide +kernel
theorem dX14_calls_191 : decode cX14_calls 191 = .ok (.getfield 44, 3) := by decide +kernel
theorem dX14_calls_194 : decode cX14_calls 194 = .ok (.dup, 1) := by decide +kernel
theorem dX14_calls_195 : decode cX14_calls 195 = .ok (.getfield 354, 3) := by decide +kernel
theorem dX14_calls_198 : decode cX14_calls 198 = .ok (.iconst 1, 1) := by decide +kernel
theorem dX14_calls_199 : decode cX14_calls 199 = .ok (.iadd, 1) := by decide +kernel
theorem dX14_calls_200 : decode cX14_calls 200 = .ok (.putfield 354, 3) := by decide +kernel
theorem dX14_calls_203 : decode cX14_calls 203 = .ok (.aload_n 0, 1) := by decide +kernel
theorem dX14_calls_204 : decode cX14_calls 204 = .ok (.getfield 44, 3) := by decide +kernel
theorem dX14_calls_207 : decode cX14_calls 207 = .ok (.dup, 1) := by decide +kernel
theorem dX14_calls_208 : decode cX14_calls 208 = .ok (.getfield 366, 3) := by decide +kernel
theorem dX14_calls_211 : decode cX14_calls 211 = .ok (.lconst 1, 1) := by decide +kernel
theorem dX14_calls_212 : decode cX14_calls 212 = .ok (.iload_n 3, 1) := by decide +kernel
theorem dX14_calls_213 : decode cX14_calls 213 = .ok (.lshl, 1) := by decide +kernel
theorem dX14_calls_214 : decode cX14_calls 214 = .ok (.lor, 1) := by decide +kernel
theorem dX14_calls_215 : decode cX14_calls 215 = .ok (.putfield 366, 3) := by decide +kernel
theorem dX14_calls_218 : decode cX14_calls 218 = .ok (.aload_n 0, 1) := by decide +kernel
theorem dX14_calls_219 : decode cX14_calls 219 = .ok (.iload_n 3, 1) := by decide +kernel
theorem dX14_calls_220 : decode cX14_calls 220 = .ok (.iload_n 2, 1) := by decide +kernel
theorem dX14_calls_221 : decode cX14_calls 221 = .ok (.invokevirtual 385, 3) := by decide +kernel
theorem dX14_calls_224 : decode cX14_calls 224 = .ok (.istore 4, 2) := by decide +kernel
theorem dX14_calls_226 : decode cX14_calls 226 = .ok (.aload_n 0, 1) := by decide +kernel
theorem dX14_calls_227 : decode cX14_calls 227 = .ok (.getfield 16, 3) := by decide +kernel
theorem dX14_calls_230 : decode cX14_calls 230 = .ok (.getfield 248, 3) := by decide +kernel
theorem dX14_calls_233 : decode cX14_calls 233 = .ok (.iload_n 3, 1) := by decide +kernel
theorem dX14_calls_234 : decode cX14_calls 234 = .ok (.iaload, 1) := by decide +kernel
theorem dX14_calls_235 : decode cX14_calls 235 = .ok (.ifCond .ne 25, 3) := by decide +kernel
theorem dX14_calls_238 : decode cX14_calls 238 = .ok (.aload_n 0, 1) := by decide +kernel
theorem dX14_calls_239 : decode cX14_calls 239 = .ok (.getfield 44, 3) := by decide +kernel
theorem dX14_calls_242 : decode cX14_calls 242 = .ok (.getfield 382, 3) := by decide +kernel
theorem dX14_calls_245 : decode cX14_calls 245 = .ok (.iload_n 2, 1) := by decide +kernel
theorem dX14_calls_246 : decode cX14_calls 246 = .ok (.aload_n 0, 1) := by decide +kernel
theorem dX14_calls_247 : decode cX14_calls 247 = .ok (.getfield 16, 3) := by decide +kernel
theorem dX14_calls_250 : decode cX14_calls 250 = .ok (.getfield 267, 3) := by decide +kernel
theorem dX14_calls_253 : decode cX14_calls 253 = .ok (.iload_n 3, 1) := by decide +kernel
theorem dX14_calls_254 : decode cX14_calls 254 = .ok (.iaload, 1) := by decide +kernel
theorem dX14_calls_255 : decode cX14_calls 255 = .ok (.iadd, 1) := by decide +kernel
theorem dX14_calls_256 : decode cX14_calls 256 = .ok (.iaload, 1) := by decide +kernel
theorem dX14_calls_257 : decode cX14_calls 257 = .ok (.goto 4, 3) := by decide +kernel
theorem dX14_calls_260 : decode cX14_calls 260 = .ok (.iconst 0, 1) := by decide +kernel
theorem dX14_calls_261 : decode cX14_calls 261 = .ok (.istore 5, 2) := by decide +kernel
theorem dX14_calls_263 : decode cX14_calls 263 = .ok (.aload_n 0, 1) := by decide +kernel
theorem dX14_calls_264 : decode cX14_calls 264 = .ok (.getfield 16, 3) := by decide +kernel
theorem dX14_calls_267 : decode cX14_calls 267 = .ok (.getfield 248, 3) := by decide +kernel
theorem dX14_calls_270 : decode cX14_calls 270 = .ok (.iload_n 3, 1) := by decide +kernel
theorem dX14_calls_271 : decode cX14_calls 271 = .ok (.iaload, 1) := by decide +kernel
theorem dX14_calls_272 : decode cX14_calls 272 = .ok (.ifCond .ne 24, 3) := by decide +kernel
theorem dX14_calls_275 : decode cX14_calls 275 = .ok (.aload_n 0, 1) := by decide +kernel
theorem dX14_calls_276 : decode cX14_calls 276 = .ok (.getfield 44, 3) := by decide +kernel
theorem dX14_calls_279 : decode cX14_calls 279 = .ok (.getfield 382, 3) := by decide +kernel
theorem dX14_calls_282 : decode cX14_calls 282 = .ok (.iload_n 2, 1) := by decide +kernel
theorem dX14_calls_283 : decode cX14_calls 283 = .ok (.aload_n 0, 1) := by decide +kernel
theorem dX14_calls_284 : decode cX14_calls 284 = .ok (.getfield 16, 3) := by decide +kernel
theorem dX14_calls_287 : decode cX14_calls 287 = .ok (.getfield 267, 3) := by decide +kernel
theorem dX14_calls_290 : decode cX14_calls 290 = .ok (.iload_n 3, 1) := by decide +kernel
theorem dX14_calls_291 : decode cX14_calls 291 = .ok (.iaload, 1) := by decide +kernel
theorem dX14_calls_292 : decode cX14_calls 292 = .ok (.iadd, 1) := by decide +kernel
theorem dX14_calls_293 : decode cX14_calls 293 = .ok (.iload 4, 2) := by decide +kernel
theorem dX14_calls_295 : decode cX14_calls 295 = .ok (.iastore, 1) := by decide +kernel
theorem dX14_calls_296 : decode cX14_calls 296 = .ok (.aload_n 0, 1) := by decide +kernel
theorem dX14_calls_297 : decode cX14_calls 297 = .ok (.getfield 16, 3) := by decide +kernel
theorem dX14_calls_300 : decode cX14_calls 300 = .ok (.getfield 248, 3) := by decide +kernel
theorem dX14_calls_303 : decode cX14_calls 303 = .ok (.iload_n 3, 1) := by decide +kernel
theorem dX14_calls_304 : decode cX14_calls 304 = .ok (.iaload, 1) := by decide +kernel
theorem dX14_calls_305 : decode cX14_calls 305 = .ok (.iconst 1, 1) := by decide +kernel
theorem dX14_calls_306 : decode cX14_calls 306 = .ok (.if_icmp .ne 9, 3) := by decide +kernel
theorem dX14_calls_309 : decode cX14_calls 309 = .ok (.aload_n 0, 1) := by decide +kernel
theorem dX14_calls_310 : decode cX14_calls 310 = .ok (.iload 4, 2) := by decide +kernel
theorem dX14_calls_312 : decode cX14_calls 312 = .ok (.invokevirtual 388, 3) := by decide +kernel
theorem dX14_calls_315 : decode cX14_calls 315 = .ok (.aload_n 0, 1) := by decide +kernel
theorem dX14_calls_316 : decode cX14_calls 316 = .ok (.iload_n 3, 1) := by decide +kernel
theorem dX14_calls_317 : decode cX14_calls 317 = .ok (.iload 5, 2) := by decide +kernel
theorem dX14_calls_319 : decode cX14_calls 319 = .ok (.iload 4, 2) := by decide +kernel
theorem dX14_calls_321 : decode cX14_calls 321 = .ok (.invokevirtual 391, 3) := by decide +kernel
theorem dX14_calls_324 : decode cX14_calls 324 = .ok (.aload_n 0, 1) := by decide +kernel
theorem dX14_calls_325 : decode cX14_calls 325 = .ok (.getfield 16, 3) := by decide +kernel
theorem dX14_calls_328 : decode cX14_calls 328 = .ok (.getfield 248, 3) := by decide +kernel
theorem dX14_calls_331 : decode cX14_calls 331 = .ok (.iload_n 3, 1) := by decide +kernel
theorem dX14_calls_332 : decode cX14_calls 332 = .ok (.iaload, 1) := by decide +kernel
theorem dX14_calls_333 : decode cX14_calls 333 = .ok (.iconst 2, 1) := by decide +kernel
theorem dX14_calls_334 : decode cX14_calls 334 = .ok (.if_icmp .ne 16, 3) := by decide +kernel
theorem dX14_calls_337 : decode cX14_calls 337 = .ok (.aload_n 0, 1) := by decide +kernel
theorem dX14_calls_338 : decode cX14_calls 338 = .ok (.dup, 1) := by decide +kernel
theorem dX14_calls_339 : decode cX14_calls 339 = .ok (.getfield 369, 3) := by decide +kernel
theorem dX14_calls_342 : decode cX14_calls 342 = .ok (.iconst 1, 1) := by decide +kernel
theorem dX14_calls_343 : decode cX14_calls 343 = .ok (.isub, 1) := by decide +kernel
theorem dX14_calls_344 : decode cX14_calls 344 = .ok (.putfield 369, 3) := by decide +kernel
theorem dX14_calls_347 : decode cX14_calls 347 = .ok (.iload 4, 2) := by decide +kernel
theorem dX14_calls_349 : decode cX14_calls 349 = .ok (.ireturn, 1) := by decide +kernel
theorem dX14_calls_350 : decode cX14_calls 350 = .ok (.aload_n 0, 1) := by decide +kernel
theorem dX14_calls_351 : decode cX14_calls 351 = .ok (.getfield 16, 3) := by decide +kernel
theorem dX14_calls_354 : decode cX14_calls 354 = .ok (.getfield 248, 3) := by decide +kernel
theorem dX14_calls_357 : decode cX14_calls 357 = .ok (.iload_n 3, 1) := by decide +kernel
theorem dX14_calls_358 : decode cX14_calls 358 = .ok (.iaload, 1) := by decide +kernel
theorem dX14_calls_359 : decode cX14_calls 359 = .ok (.iconst 3, 1) := by decide +kernel
theorem dX14_calls_360 : decode cX14_calls 360 = .ok (.if_icmp .lt 13, 3) := by decide +kernel
theorem dX14_calls_363 : decode cX14_calls 363 = .ok (.iload 4, 2) := by decide +kernel
theorem dX14_calls_365 : decode cX14_calls 365 = .ok (.iconst 1, 1) := by decide +kernel
theorem dX14_calls_366 : decode cX14_calls 366 = .ok (.if_icmp .ne 7, 3) := by decide +kernel
theorem dX14_calls_369 : decode cX14_calls 369 = .ok (.iconst 1, 1) := by decide +kernel
theorem dX14_calls_370 : decode cX14_calls 370 = .ok (.goto 4, 3) := by decide +kernel
theorem dX14_calls_373 : decode cX14_calls 373 = .ok (.iconst 0, 1) := by decide +kernel
theorem dX14_calls_374 : decode cX14_calls 374 = .ok (.istore 6, 2) := by decide +kernel
theorem dX14_calls_376 : decode cX14_calls 376 = .ok (.iload 6, 2) := by decide +kernel
theorem dX14_calls_378 : decode cX14_calls 378 = .ok (.ifCond .eq 15, 3) := by decide +kernel
theorem dX14_calls_381 : decode cX14_calls 381 = .ok (.aload_n 0, 1) := by decide +kernel
theorem dX14_calls_382 : decode cX14_calls 382 = .ok (.getfield 16, 3) := by decide +kernel
theorem dX14_calls_385 : decode cX14_calls 385 = .ok (.getfield 261, 3) := by decide +kernel
theorem dX14_calls_388 : decode cX14_calls 388 = .ok (.iload_n 3, 1) := by decide +kernel
theorem dX14_calls_389 : decode cX14_calls 389 = .ok (.iaload, 1) := by decide +kernel
theorem dX14_calls_390 : decode cX14_calls 390 = .ok (.goto 33, 3) := by decide +kernel
theorem dX14_calls_393 : decode cX14_calls 393 = .ok (.aload_n 0, 1) := by decide +kernel
theorem dX14_calls_394 : decode cX14_calls 394 = .ok (.getfield 16, 3) := by decide +kernel
theorem dX14_calls_397 : decode cX14_calls 397 = .ok (.getfield 264, 3) := by decide +kernel
theorem dX14_calls_400 : decode cX14_calls 400 = .ok (.iload_n 3, 1) := by decide +kernel
theorem dX14_calls_401 : decode cX14_calls 401 = .ok (.iaload, 1) := by decide +kernel
theorem dX14_calls_402 : decode cX14_calls 402 = .ok (.iconst (-1), 1) := by decide +kernel
theorem dX14_calls_403 : decode cX14_calls 403 = .ok (.if_icmp .eq 15, 3) := by decide +kernel
theorem dX14_calls_406 : decode cX14_calls 406 = .ok (.aload_n 0, 1) := by decide +kernel
theorem dX14_calls_407 : decode cX14_calls 407 = .ok (.getfield 16, 3) := by decide +kernel
theorem dX14_calls_410 : decode cX14_calls 410 = .ok (.getfield 264, 3) := by decide +kernel
theorem dX14_calls_413 : decode cX14_calls 413 = .ok (.iload_n 3, 1) := by decide +kernel
theorem dX14_calls_414 : decode cX14_calls 414 = .ok (.iaload, 1) := by decide +kernel
theorem dX14_calls_415 : decode cX14_calls 415 = .ok (.goto 8, 3) := by decide +kernel
theorem dX14_calls_418 : decode cX14_calls 418 = .ok (.aload_n 0, 1) := by decide +kernel
theorem dX14_calls_419 : decode cX14_calls 419 = .ok (.iload_n 3, 1) := by decide +kernel
theorem dX14_calls_420 : decode cX14_calls 420 = .ok (.invokevirtual 394, 3) := by decide +kernel
theorem dX14_calls_423 : decode cX14_calls 423 = .ok (.istore_n 3, 1) := by decide +kernel
theorem dX14_calls_424 : decode cX14_calls 424 = .ok (.goto (-260), 3) := by decide +kernel
theorem dX14_calls_427 : decode cX14_calls 427 = .ok (.aload_n 0, 1) := by decide +kernel
theorem dX14_calls_428 : decode cX14_calls 428 = .ok (.dup, 1) := by decide +kernel
theorem dX14_calls_429 : decode cX14_calls 429 = .ok (.getfield 369, 3) := by decide +kernel
theorem dX14_calls_432 : decode cX14_calls 432 = .ok (.iconst 1, 1) := by decide +kernel
theorem dX14_calls_433 : decode cX14_calls 433 = .ok (.isub, 1) := by decide +kernel
theorem dX14_calls_434 : decode cX14_calls 434 = .ok (.putfield 369, 3) := by decide +kernel
theorem dX14_calls_437 : decode cX14_calls 437 = .ok (.iconst 0, 1) := by decide +kernel
theorem dX14_calls_438 : decode cX14_calls 438 = .ok (.ireturn, 1) := by decide +kernel
theorem dX14_behind_0 : decode cX14_behind 0 = .ok (.iload_n 1, 1) := by decide +kernel
theorem dX14_behind_1 : decode cX14_behind 1 = .ok (.istore_n 2, 1) := by decide +kernel
theorem dX14_behind_2 : decode cX14_behind 2 = .ok (.iload_n 2, 1) := by decide +kernel
theorem dX14_behind_3 : decode cX14_behind 3 = .ok (.iconst (-1), 1) := by decide +kernel
theorem dX14_behind_4 : decode cX14_behind 4 = .ok (.if_icmp .eq 54, 3) := by decide +kernel
theorem dX14_behind_7 : decode cX14_behind 7 = .ok (.aload_n 0, 1) := by decide +kernel
theorem dX14_behind_8 : decode cX14_behind 8 = .ok (.getfield 16, 3) := by decide +kernel
theorem dX14_behind_11 : decode cX14_behind 11 = .ok (.getfield 243, 3) := by decide +kernel
theorem dX14_behind_14 : decode cX14_behind 14 = .ok (.iload_n 2, 1) := by decide +kernel
theorem dX14_behind_15 : decode cX14_behind 15 = .ok (.iaload, 1) := by decide +kernel
theorem dX14_behind_16 : decode cX14_behind 16 = .ok (.iconst (-1), 1) := by decide +kernel
theorem dX14_behind_17 : decode cX14_behind 17 = .ok (.if_icmp .ne 41, 3) := by decide +kernel
theorem dX14_behind_20 : decode cX14_behind 20 = .ok (.aload_n 0, 1) := by decide +kernel
theorem dX14_behind_21 : decode cX14_behind 21 = .ok (.getfield 16, 3) := by decide +kernel
theorem dX14_behind_24 : decode cX14_behind 24 = .ok (.getfield 258, 3) := by decide +kernel
theorem dX14_behind_27 : decode cX14_behind 27 = .ok (.iload_n 2, 1) := by decide +kernel
theorem dX14_behind_28 : decode cX14_behind 28 = .ok (.iaload, 1) := by decide +kernel
theorem dX14_behind_29 : decode cX14_behind 29 = .ok (.istore_n 2, 1) := by decide +kernel
theorem dX14_behind_30 : decode cX14_behind 30 = .ok (.iload_n 2, 1) := by decide +kernel
theorem dX14_behind_31 : decode cX14_behind 31 = .ok (.iconst (-1), 1) := by decide +kernel
theorem dX14_behind_32 : decode cX14_behind 32 = .ok (.if_icmp .eq (-30), 3) := by decide +kernel
theorem dX14_behind_35 : decode cX14_behind 35 = .ok (.aload_n 0, 1) := by decide +kernel
theorem dX14_behind_36 : decode cX14_behind 36 = .ok (.getfield 16, 3) := by decide +kernel
theorem dX14_behind_39 : decode cX14_behind 39 = .ok (.getfield 248, 3) := by decide +kernel
theorem dX14_behind_42 : decode cX14_behind 42 = .ok (.iload_n 2, 1) := by decide +kernel
theorem dX14_behind_43 : decode cX14_behind 43 = .ok (.iaload, 1) := by decide +kernel
theorem dX14_behind_44 : decode cX14_behind 44 = .ok (.iconst 4, 1) := by decide +kernel
theorem dX14_behind_45 : decode cX14_behind 45 = .ok (.if_icmp .ne (-43), 3) := by decide +kernel
theorem dX14_behind_48 : decode cX14_behind 48 = .ok (.aload_n 0, 1) := by decide +kernel
theorem dX14_behind_49 : decode cX14_behind 49 = .ok (.getfield 347, 3) := by decide +kernel
theorem dX14_behind_52 : decode cX14_behind 52 = .ok (.iconst 2, 1) := by decide +kernel
theorem dX14_behind_53 : decode cX14_behind 53 = .ok (.if_icmp .eq (-51), 3) := by decide +kernel
theorem dX14_behind_56 : decode cX14_behind 56 = .ok (.iload_n 2, 1) := by decide +kernel
theorem dX14_behind_57 : decode cX14_behind 57 = .ok (.ireturn, 1) := by decide +kernel
theorem dX14_behind_58 : decode cX14_behind 58 = .ok (.iload_n 2, 1) := by decide +kernel
theorem dX14_behind_59 : decode cX14_behind 59 = .ok (.iconst (-1), 1) := by decide +kernel
theorem dX14_behind_60 : decode cX14_behind 60 = .ok (.if_icmp .ne 7, 3) := by decide +kernel
theorem dX14_behind_63 : decode cX14_behind 63 = .ok (.iconst (-1), 1) := by decide +kernel
theorem dX14_behind_64 : decode cX14_behind 64 = .ok (.goto 12, 3) := by decide +kernel
theorem dX14_behind_67 : decode cX14_behind 67 = .ok (.aload_n 0, 1) := by decide +kernel
theorem dX14_behind_68 : decode cX14_behind 68 = .ok (.getfield 16, 3) := by decide +kernel
theorem dX14_behind_71 : decode cX14_behind 71 = .ok (.getfield 243, 3) := by decide +kernel
theorem dX14_behind_74 : decode cX14_behind 74 = .ok (.iload_n 2, 1) := by decide +kernel
theorem dX14_behind_75 : decode cX14_behind 75 = .ok (.iaload, 1) := by decide +kernel
theorem dX14_behind_76 : decode cX14_behind 76 = .ok (.ireturn, 1) := by decide +kernel
theorem dX14_says_0 : decode cX14_says 0 = .ok (.aload_n 0, 1) := by decide +kernel
theorem dX14_says_1 : decode cX14_says 1 = .ok (.getfield 44, 3) := by decide +kernel
theorem dX14_says_4 : decode cX14_says 4 = .ok (.getfield 357, 3) := by decide +kernel
theorem dX14_says_7 : decode cX14_says 7 = .ok (.bipush 60, 2) := by decide +kernel
theorem dX14_says_9 : decode cX14_says 9 = .ok (.if_icmp .ge 19, 3) := by decide +kernel
theorem dX14_says_12 : decode cX14_says 12 = .ok (.aload_n 0, 1) := by decide +kernel
theorem dX14_says_13 : decode cX14_says 13 = .ok (.getfield 44, 3) := by decide +kernel
theorem dX14_says_16 : decode cX14_says 16 = .ok (.getfield 397, 3) := by decide +kernel
theorem dX14_says_19 : decode cX14_says 19 = .ok (.aload_n 0, 1) := by decide +kernel
theorem dX14_says_20 : decode cX14_says 20 = .ok (.getfield 44, 3) := by decide +kernel
theorem dX14_says_23 : decode cX14_says 23 = .ok (.getfield 357, 3) := by decide +kernel
theorem dX14_says_26 : decode cX14_says 26 = .ok (.iload_n 1, 1) := by decide +kernel
theorem dX14_says_27 : decode cX14_says 27 = .ok (.iastore, 1) := by decide +kernel
theorem dX14_says_28 : decode cX14_says 28 = .ok (.aload_n 0, 1) := by decide +kernel
theorem dX14_says_29 : decode cX14_says 29 = .ok (.getfield 44, 3) := by decide +kernel
theorem dX14_says_32 : decode cX14_says 32 = .ok (.dup, 1) := by decide +kernel
theorem dX14_says_33 : decode cX14_says 33 = .ok (.getfield 357, 3) := by decide +kernel
theorem dX14_says_36 : decode cX14_says 36 = .ok (.iconst 1, 1) := by decide +kernel
theorem dX14_says_37 : decode cX14_says 37 = .ok (.iadd, 1) := by decide +kernel
theorem dX14_says_38 : decode cX14_says 38 = .ok (.putfield 357, 3) := by decide +kernel
theorem dX14_says_41 : decode cX14_says 41 = .ok (.return_, 1) := by decide +kernel
theorem dX14_traces_0 : decode cX14_traces 0 = .ok (.aload_n 0, 1) := by decide +kernel
theorem dX14_traces_1 : decode cX14_traces 1 = .ok (.getfield 44, 3) := by decide +kernel
theorem dX14_traces_4 : decode cX14_traces 4 = .ok (.getfield 360, 3) := by decide +kernel
theorem dX14_traces_7 : decode cX14_traces 7 = .ok (.sipush 400, 3) := by decide +kernel
theorem dX14_traces_10 : decode cX14_traces 10 = .ok (.if_icmp .ge 72, 3) := by decide +kernel
theorem dX14_traces_13 : decode cX14_traces 13 = .ok (.iconst 4, 1) := by decide +kernel
theorem dX14_traces_14 : decode cX14_traces 14 = .ok (.aload_n 0, 1) := by decide +kernel
theorem dX14_traces_15 : decode cX14_traces 15 = .ok (.getfield 44, 3) := by decide +kernel
theorem dX14_traces_18 : decode cX14_traces 18 = .ok (.getfield 360, 3) := by decide +kernel
theorem dX14_traces_21 : decode cX14_traces 21 = .ok (.imul, 1) := by decide +kernel
theorem dX14_traces_22 : decode cX14_traces 22 = .ok (.istore 4, 2) := by decide +kernel
theorem dX14_traces_24 : decode cX14_traces 24 = .ok (.aload_n 0, 1) := by decide +kernel
theorem dX14_traces_25 : decode cX14_traces 25 = .ok (.getfield 44, 3) := by decide +kernel
theorem dX14_traces_28 : decode cX14_traces 28 = .ok (.getfield 400, 3) := by decide +kernel
theorem dX14_traces_31 : decode cX14_traces 31 = .ok (.iload 4, 2) := by decide +kernel
theorem dX14_traces_33 : decode cX14_traces 33 = .ok (.iload_n 1, 1) := by decide +kernel
theorem dX14_traces_34 : decode cX14_traces 34 = .ok (.iastore, 1) := by decide +kernel
theorem dX14_traces_35 : decode cX14_traces 35 = .ok (.aload_n 0, 1) := by decide +kernel
theorem dX14_traces_36 : decode cX14_traces 36 = .ok (.getfield 44, 3) := by decide +kernel
theorem dX14_traces_39 : decode cX14_traces 39 = .ok (.getfield 400, 3) := by decide +kernel
theorem dX14_traces_42 : decode cX14_traces 42 = .ok (.iload 4, 2) := by decide +kernel
theorem dX14_traces_44 : decode cX14_traces 44 = .ok (.iconst 1, 1) := by decide +kernel
theorem dX14_traces_45 : decode cX14_traces 45 = .ok (.iadd, 1) := by decide +kernel
theorem dX14_traces_46 : decode cX14_traces 46 = .ok (.aload_n 0, 1) := by decide +kernel
theorem dX14_traces_47 : decode cX14_traces 47 = .ok (.getfield 16, 3) := by decide +kernel
theorem dX14_traces_50 : decode cX14_traces 50 = .ok (.getfield 267, 3) := by decide +kernel
theorem dX14_traces_53 : decode cX14_traces 53 = .ok (.iload_n 1, 1) := by decide +kernel
theorem dX14_traces_54 : decode cX14_traces 54 = .ok (.iaload, 1) := by decide +kernel
theorem dX14_traces_55 : decode cX14_traces 55 = .ok (.iastore, 1) := by decide +kernel
theorem dX14_traces_56 : decode cX14_traces 56 = .ok (.aload_n 0, 1) := by decide +kernel
theorem dX14_traces_57 : decode cX14_traces 57 = .ok (.getfield 44, 3) := by decide +kernel
theorem dX14_traces_60 : decode cX14_traces 60 = .ok (.getfield 400, 3) := by decide +kernel
theorem dX14_traces_63 : decode cX14_traces 63 = .ok (.iload 4, 2) := by decide +kernel
theorem dX14_traces_65 : decode cX14_traces 65 = .ok (.iconst 2, 1) := by decide +kernel
theorem dX14_traces_66 : decode cX14_traces 66 = .ok (.iadd, 1) := by decide +kernel
theorem dX14_traces_67 : decode cX14_traces 67 = .ok (.iload_n 2, 1) := by decide +kernel
theorem dX14_traces_68 : decode cX14_traces 68 = .ok (.iastore, 1) := by decide +kernel
theorem dX14_traces_69 : decode cX14_traces 69 = .ok (.aload_n 0, 1) := by decide +kernel
theorem dX14_traces_70 : decode cX14_traces 70 = .ok (.getfield 44, 3) := by decide +kernel
theorem dX14_traces_73 : decode cX14_traces 73 = .ok (.getfield 400, 3) := by decide +kernel
theorem dX14_traces_76 : decode cX14_traces 76 = .ok (.iload 4, 2) := by decide +kernel
theorem dX14_traces_78 : decode cX14_traces 78 = .ok (.iconst 3, 1) := by decide +kernel
theorem dX14_traces_79 : decode cX14_traces 79 = .ok (.iadd, 1) := by decide +kernel
theorem dX14_traces_80 : decode cX14_traces 80 = .ok (.iload_n 3, 1) := by decide +kernel
theorem dX14_traces_81 : decode cX14_traces 81 = .ok (.iastore, 1) := by decide +kernel
theorem dX14_traces_82 : decode cX14_traces 82 = .ok (.aload_n 0, 1) := by decide +kernel
theorem dX14_traces_83 : decode cX14_traces 83 = .ok (.getfield 44, 3) := by decide +kernel
theorem dX14_traces_86 : decode cX14_traces 86 = .ok (.dup, 1) := by decide +kernel
theorem dX14_traces_87 : decode cX14_traces 87 = .ok (.getfield 360, 3) := by decide +kernel
theorem dX14_traces_90 : decode cX14_traces 90 = .ok (.iconst 1, 1) := by decide +kernel
theorem dX14_traces_91 : decode cX14_traces 91 = .ok (.iadd, 1) := by decide +kernel
theorem dX14_traces_92 : decode cX14_traces 92 = .ok (.putfield 360, 3) := by decide +kernel
theorem dX14_traces_95 : decode cX14_traces 95 = .ok (.return_, 1) := by decide +kernel
theorem dX14_worked_0 : decode cX14_worked 0 = .ok (.aload_n 0, 1) := by decide +kernel
theorem dX14_worked_1 : decode cX14_worked 1 = .ok (.getfield 16, 3) := by decide +kernel
theorem dX14_worked_4 : decode cX14_worked 4 = .ok (.getfield 270, 3) := by decide +kernel
theorem dX14_worked_7 : decode cX14_worked 7 = .ok (.iload_n 1, 1) := by decide +kernel
theorem dX14_worked_8 : decode cX14_worked 8 = .ok (.iaload, 1) := by decide +kernel
theorem dX14_worked_9 : decode cX14_worked 9 = .ok (.istore_n 3, 1) := by decide +kernel
theorem dX14_worked_10 : decode cX14_worked 10 = .ok (.iload_n 3, 1) := by decide +kernel
theorem dX14_worked_11 : decode cX14_worked 11 = .ok (.aload_n 0, 1) := by decide +kernel
theorem dX14_worked_12 : decode cX14_worked 12 = .ok (.getfield 16, 3) := by decide +kernel
theorem dX14_worked_15 : decode cX14_worked 15 = .ok (.getfield 280, 3) := by decide +kernel
theorem dX14_worked_18 : decode cX14_worked 18 = .ok (.iload_n 1, 1) := by decide +kernel
theorem dX14_worked_19 : decode cX14_worked 19 = .ok (.iaload, 1) := by decide +kernel
theorem dX14_worked_20 : decode cX14_worked 20 = .ok (.if_icmp .ge 181, 3) := by decide +kernel
theorem dX14_worked_23 : decode cX14_worked 23 = .ok (.aload_n 0, 1) := by decide +kernel
theorem dX14_worked_24 : decode cX14_worked 24 = .ok (.getfield 16, 3) := by decide +kernel
theorem dX14_worked_27 : decode cX14_worked 27 = .ok (.getfield 186, 3) := by decide +kernel
theorem dX14_worked_30 : decode cX14_worked 30 = .ok (.iload_n 3, 1) := by decide +kernel
theorem dX14_worked_31 : decode cX14_worked 31 = .ok (.iaload, 1) := by decide +kernel
theorem dX14_worked_32 : decode cX14_worked 32 = .ok (.istore 4, 2) := by decide +kernel
theorem dX14_worked_34 : decode cX14_worked 34 = .ok (.iload 4, 2) := by decide +kernel
theorem dX14_worked_36 : decode cX14_worked 36 = .ok (.ifCond .eq 9, 3) := by decide +kernel
theorem dX14_worked_39 : decode cX14_worked 39 = .ok (.iload 4, 2) := by decide +kernel
theorem dX14_worked_41 : decode cX14_worked 41 = .ok (.iconst 1, 1) := by decide +kernel
theorem dX14_worked_42 : decode cX14_worked 42 = .ok (.if_icmp .ne 61, 3) := by decide +kernel
theorem dX14_worked_45 : decode cX14_worked 45 = .ok (.aload_n 0, 1) := by decide +kernel
theorem dX14_worked_46 : decode cX14_worked 46 = .ok (.getfield 47, 3) := by decide +kernel
theorem dX14_worked_49 : decode cX14_worked 49 = .ok (.aload_n 0, 1) := by decide +kernel
theorem dX14_worked_50 : decode cX14_worked 50 = .ok (.getfield 372, 3) := by decide +kernel
theorem dX14_worked_53 : decode cX14_worked 53 = .ok (.iload 4, 2) := by decide +kernel
theorem dX14_worked_55 : decode cX14_worked 55 = .ok (.ifCond .ne 15, 3) := by decide +kernel
theorem dX14_worked_58 : decode cX14_worked 58 = .ok (.aload_n 0, 1) := by decide +kernel
theorem dX14_worked_59 : decode cX14_worked 59 = .ok (.getfield 16, 3) := by decide +kernel
theorem dX14_worked_62 : decode cX14_worked 62 = .ok (.getfield 205, 3) := by decide +kernel
theorem dX14_worked_65 : decode cX14_worked 65 = .ok (.iload_n 3, 1) := by decide +kernel
theorem dX14_worked_66 : decode cX14_worked 66 = .ok (.iaload, 1) := by decide +kernel
theorem dX14_worked_67 : decode cX14_worked 67 = .ok (.goto 22, 3) := by decide +kernel
theorem dX14_worked_70 : decode cX14_worked 70 = .ok (.aload_n 0, 1) := by decide +kernel
theorem dX14_worked_71 : decode cX14_worked 71 = .ok (.getfield 44, 3) := by decide +kernel
theorem dX14_worked_74 : decode cX14_worked 74 = .ok (.getfield 382, 3) := by decide +kernel
theorem dX14_worked_77 : decode cX14_worked 77 = .ok (.iload_n 2, 1) := by decide +kernel
theorem dX14_worked_78 : decode cX14_worked 78 = .ok (.aload_n 0, 1) := by decide +kernel
theorem dX14_worked_79 : decode cX14_worked 79 = .ok (.getfield 16, 3) := by decide +kernel
theorem dX14_worked_82 : decode cX14_worked 82 = .ok (.getfield 205, 3) := by decide +kernel
theorem dX14_worked_85 : decode cX14_worked 85 = .ok (.iload_n 3, 1) := by decide +kernel
theorem dX14_worked_86 : decode cX14_worked 86 = .ok (.iaload, 1) := by decide +kernel
theorem dX14_worked_87 : decode cX14_worked 87 = .ok (.iadd, 1) := by decide +kernel
theorem dX14_worked_88 : decode cX14_worked 88 = .ok (.iaload, 1) := by decide +kernel
theorem dX14_worked_89 : decode cX14_worked 89 = .ok (.iastore, 1) := by decide +kernel
theorem dX14_worked_90 : decode cX14_worked 90 = .ok (.aload_n 0, 1) := by decide +kernel
theorem dX14_worked_91 : decode cX14_worked 91 = .ok (.dup, 1) := by decide +kernel
theorem dX14_worked_92 : decode cX14_worked 92 = .ok (.getfield 372, 3) := by decide +kernel
theorem dX14_worked_95 : decode cX14_worked 95 = .ok (.iconst 1, 1) := by decide +kernel
theorem dX14_worked_96 : decode cX14_worked 96 = .ok (.iadd, 1) := by decide +kernel
theorem dX14_worked_97 : decode cX14_worked 97 = .ok (.putfield 372, 3) := by decide +kernel
theorem dX14_worked_100 : decode cX14_worked 100 = .ok (.goto 95, 3) := by decide +kernel
theorem dX14_worked_103 : decode cX14_worked 103 = .ok (.iload 4, 2) := by decide +kernel
theorem dX14_worked_105 : decode cX14_worked 105 = .ok (.iconst 5, 1) := by decide +kernel
theorem dX14_worked_106 : decode cX14_worked 106 = .ok (.if_icmp .ne 42, 3) := by decide +kernel
theorem dX14_worked_109 : decode cX14_worked 109 = .ok (.aload_n 0, 1) := by decide +kernel
theorem dX14_worked_110 : decode cX14_worked 110 = .ok (.aload_n 0, 1) := by decide +kernel
theorem dX14_worked_111 : decode cX14_worked 111 = .ok (.getfield 16, 3) := by decide +kernel
theorem dX14_worked_114 : decode cX14_worked 114 = .ok (.getfield 205, 3) := by decide +kernel
theorem dX14_worked_117 : decode cX14_worked 117 = .ok (.iload_n 3, 1) := by decide +kernel
theorem dX14_worked_118 : decode cX14_worked 118 = .ok (.iaload, 1) := by decide +kernel
theorem dX14_worked_119 : decode cX14_worked 119 = .ok (.invokevirtual 375, 3) := by decide +kernel
theorem dX14_worked_122 : decode cX14_worked 122 = .ok (.istore 5, 2) := by decide +kernel
theorem dX14_worked_124 : decode cX14_worked 124 = .ok (.aload_n 0, 1) := by decide +kernel
theorem dX14_worked_125 : decode cX14_worked 125 = .ok (.getfield 47, 3) := by decide +kernel
theorem dX14_worked_128 : decode cX14_worked 128 = .ok (.aload_n 0, 1) := by decide +kernel
theorem dX14_worked_129 : decode cX14_worked 129 = .ok (.getfield 372, 3) := by decide +kernel
theorem dX14_worked_132 : decode cX14_worked 132 = .ok (.iload 5, 2) := by decide +kernel
theorem dX14_worked_134 : decode cX14_worked 134 = .ok (.iastore, 1) := by decide +kernel
theorem dX14_worked_135 : decode cX14_worked 135 = .ok (.aload_n 0, 1) := by decide +kernel
theorem dX14_worked_136 : decode cX14_worked 136 = .ok (.dup, 1) := by decide +kernel
theorem dX14_worked_137 : decode cX14_worked 137 = .ok (.getfield 372, 3) := by decide +kernel
theorem dX14_worked_140 : decode cX14_worked 140 = .ok (.iconst 1, 1) := by decide +kernel
theorem dX14_worked_141 : decode cX14_worked 141 = .ok (.iadd, 1) := by decide +kernel
theorem dX14_worked_142 : decode cX14_worked 142 = .ok (.putfield 372, 3) := by decide +kernel
theorem dX14_worked_145 : decode cX14_worked 145 = .ok (.goto 50, 3) := by decide +kernel
theorem dX14_worked_148 : decode cX14_worked 148 = .ok (.aload_n 0, 1) := by decide +kernel
theorem dX14_worked_149 : decode cX14_worked 149 = .ok (.dup, 1) := by decide +kernel
theorem dX14_worked_150 : decode cX14_worked 150 = .ok (.getfield 372, 3) := by decide +kernel
theorem dX14_worked_153 : decode cX14_worked 153 = .ok (.iconst 1, 1) := by decide +kernel
theorem dX14_worked_154 : decode cX14_worked 154 = .ok (.isub, 1) := by decide +kernel
theorem dX14_worked_155 : decode cX14_worked 155 = .ok (.putfield 372, 3) := by decide +kernel
theorem dX14_worked_158 : decode cX14_worked 158 = .ok (.aload_n 0, 1) := by decide +kernel
theorem dX14_worked_159 : decode cX14_worked 159 = .ok (.getfield 47, 3) := by decide +kernel
theorem dX14_worked_162 : decode cX14_worked 162 = .ok (.aload_n 0, 1) := by decide +kernel
theorem dX14_worked_163 : decode cX14_worked 163 = .ok (.getfield 372, 3) := by decide +kernel
theorem dX14_worked_166 : decode cX14_worked 166 = .ok (.iconst 1, 1) := by decide +kernel
theorem dX14_worked_167 : decode cX14_worked 167 = .ok (.isub, 1) := by decide +kernel
theorem dX14_worked_168 : decode cX14_worked 168 = .ok (.aload_n 0, 1) := by decide +kernel
theorem dX14_worked_169 : decode cX14_worked 169 = .ok (.iload 4, 2) := by decide +kernel
theorem dX14_worked_171 : decode cX14_worked 171 = .ok (.aload_n 0, 1) := by decide +kernel
theorem dX14_worked_172 : decode cX14_worked 172 = .ok (.getfield 47, 3) := by decide +kernel
theorem dX14_worked_175 : decode cX14_worked 175 = .ok (.aload_n 0, 1) := by decide +kernel
theorem dX14_worked_176 : decode cX14_worked 176 = .ok (.getfield 372, 3) := by decide +kernel
theorem dX14_worked_179 : decode cX14_worked 179 = .ok (.iconst 1, 1) := by decide +kernel
theorem dX14_worked_180 : decode cX14_worked 180 = .ok (.isub, 1) := by decide +kernel
theorem dX14_worked_181 : decode cX14_worked 181 = .ok (.iaload, 1) := by decide +kernel
theorem dX14_worked_182 : decode cX14_worked 182 = .ok (.aload_n 0, 1) := by decide +kernel
theorem dX14_worked_183 : decode cX14_worked 183 = .ok (.getfield 47, 3) := by decide +kernel
theorem dX14_worked_186 : decode cX14_worked 186 = .ok (.aload_n 0, 1) := by decide +kernel
theorem dX14_worked_187 : decode cX14_worked 187 = .ok (.getfield 372, 3) := by decide +kernel
theorem dX14_worked_190 : decode cX14_worked 190 = .ok (.iaload, 1) := by decide +kernel
theorem dX14_worked_191 : decode cX14_worked 191 = .ok (.invokevirtual 403, 3) := by decide +kernel
theorem dX14_worked_194 : decode cX14_worked 194 = .ok (.iastore, 1) := by decide +kernel
theorem dX14_worked_195 : decode cX14_worked 195 = .ok (.iinc 3 1, 3) := by decide +kernel
theorem dX14_worked_198 : decode cX14_worked 198 = .ok (.goto (-188), 3) := by decide +kernel
theorem dX14_worked_201 : decode cX14_worked 201 = .ok (.aload_n 0, 1) := by decide +kernel
theorem dX14_worked_202 : decode cX14_worked 202 = .ok (.dup, 1) := by decide +kernel
theorem dX14_worked_203 : decode cX14_worked 203 = .ok (.getfield 372, 3) := by decide +kernel
theorem dX14_worked_206 : decode cX14_worked 206 = .ok (.iconst 1, 1) := by decide +kernel
theorem dX14_worked_207 : decode cX14_worked 207 = .ok (.isub, 1) := by decide +kernel
theorem dX14_worked_208 : decode cX14_worked 208 = .ok (.putfield 372, 3) := by decide +kernel
theorem dX14_worked_211 : decode cX14_worked 211 = .ok (.aload_n 0, 1) := by decide +kernel
theorem dX14_worked_212 : decode cX14_worked 212 = .ok (.getfield 47, 3) := by decide +kernel
theorem dX14_worked_215 : decode cX14_worked 215 = .ok (.aload_n 0, 1) := by decide +kernel
theorem dX14_worked_216 : decode cX14_worked 216 = .ok (.getfield 372, 3) := by decide +kernel
theorem dX14_worked_219 : decode cX14_worked 219 = .ok (.iaload, 1) := by decide +kernel
theorem dX14_worked_220 : decode cX14_worked 220 = .ok (.ireturn, 1) := by decide +kernel
theorem dX14_both_0 : decode cX14_both 0 = .ok (.iload_n 1, 1) := by decide +kernel
theorem dX14_both_1 : decode cX14_both 1 = .ok (.tableswitch 113 2 7 #[39, 43, 61, 113, 79, 102], 39) := by decide +kernel
theorem dX14_both_40 : decode cX14_both 40 = .ok (.iload_n 2, 1) := by decide +kernel
theorem dX14_both_41 : decode cX14_both 41 = .ok (.iload_n 3, 1) := by decide +kernel
theorem dX14_both_42 : decode cX14_both 42 = .ok (.iadd, 1) := by decide +kernel
theorem dX14_both_43 : decode cX14_both 43 = .ok (.ireturn, 1) := by decide +kernel
theorem dX14_both_44 : decode cX14_both 44 = .ok (.aload_n 0, 1) := by decide +kernel
theorem dX14_both_45 : decode cX14_both 45 = .ok (.getfield 347, 3) := by decide +kernel
theorem dX14_both_48 : decode cX14_both 48 = .ok (.iconst 1, 1) := by decide +kernel
theorem dX14_both_49 : decode cX14_both 49 = .ok (.if_icmp .ne 9, 3) := by decide +kernel
theorem dX14_both_52 : decode cX14_both 52 = .ok (.iload_n 3, 1) := by decide +kernel
theorem dX14_both_53 : decode cX14_both 53 = .ok (.iload_n 2, 1) := by decide +kernel
theorem dX14_both_54 : decode cX14_both 54 = .ok (.isub, 1) := by decide +kernel
theorem dX14_both_55 : decode cX14_both 55 = .ok (.goto 6, 3) := by decide +kernel
theorem dX14_both_58 : decode cX14_both 58 = .ok (.iload_n 2, 1) := by decide +kernel
theorem dX14_both_59 : decode cX14_both 59 = .ok (.iload_n 3, 1) := by decide +kernel
theorem dX14_both_60 : decode cX14_both 60 = .ok (.isub, 1) := by decide +kernel
theorem dX14_both_61 : decode cX14_both 61 = .ok (.ireturn, 1) := by decide +kernel
theorem dX14_both_62 : decode cX14_both 62 = .ok (.aload_n 0, 1) := by decide +kernel
theorem dX14_both_63 : decode cX14_both 63 = .ok (.getfield 347, 3) := by decide +kernel
theorem dX14_both_66 : decode cX14_both 66 = .ok (.iconst 3, 1) := by decide +kernel
theorem dX14_both_67 : decode cX14_both 67 = .ok (.if_icmp .ne 9, 3) := by decide +kernel
theorem dX14_both_70 : decode cX14_both 70 = .ok (.iload_n 2, 1) := by decide +kernel
theorem dX14_both_71 : decode cX14_both 71 = .ok (.iload_n 3, 1) := by decide +kernel
theorem dX14_both_72 : decode cX14_both 72 = .ok (.iadd, 1) := by decide +kernel
theorem dX14_both_73 : decode cX14_both 73 = .ok (.goto 6, 3) := by decide +kernel
theorem dX14_both_76 : decode cX14_both 76 = .ok (.iload_n 2, 1) := by decide +kernel
theorem dX14_both_77 : decode cX14_both 77 = .ok (.iload_n 3, 1) := by decide +kernel
theorem dX14_both_78 : decode cX14_both 78 = .ok (.imul, 1) := by decide +kernel
theorem dX14_both_79 : decode cX14_both 79 = .ok (.ireturn, 1) := by decide +kernel
theorem dX14_both_80 : decode cX14_both 80 = .ok (.iload_n 2, 1) := by decide +kernel
theorem dX14_both_81 : decode cX14_both 81 = .ok (.iload_n 3, 1) := by decide +kernel
theorem dX14_both_82 : decode cX14_both 82 = .ok (.if_icmp .lt 15, 3) := by decide +kernel
theorem dX14_both_85 : decode cX14_both 85 = .ok (.aload_n 0, 1) := by decide +kernel
theorem dX14_both_86 : decode cX14_both 86 = .ok (.getfield 347, 3) := by decide +kernel
theorem dX14_both_89 : decode cX14_both 89 = .ok (.ifCond .ne 12, 3) := by decide +kernel
theorem dX14_both_92 : decode cX14_both 92 = .ok (.iload_n 2, 1) := by decide +kernel
theorem dX14_both_93 : decode cX14_both 93 = .ok (.iload_n 3, 1) := by decide +kernel
theorem dX14_both_94 : decode cX14_both 94 = .ok (.if_icmp .ne 7, 3) := by decide +kernel
theorem dX14_both_97 : decode cX14_both 97 = .ok (.iconst 1, 1) := by decide +kernel
theorem dX14_both_98 : decode cX14_both 98 = .ok (.goto 4, 3) := by decide +kernel
theorem dX14_both_101 : decode cX14_both 101 = .ok (.iconst 0, 1) := by decide +kernel
theorem dX14_both_102 : decode cX14_both 102 = .ok (.ireturn, 1) := by decide +kernel
theorem dX14_both_103 : decode cX14_both 103 = .ok (.iload_n 2, 1) := by decide +kernel
theorem dX14_both_104 : decode cX14_both 104 = .ok (.iload_n 3, 1) := by decide +kernel
theorem dX14_both_105 : decode cX14_both 105 = .ok (.if_icmp .le 7, 3) := by decide +kernel
theorem dX14_both_108 : decode cX14_both 108 = .ok (.iconst 1, 1) := by decide +kernel
theorem dX14_both_109 : decode cX14_both 109 = .ok (.goto 4, 3) := by decide +kernel
theorem dX14_both_112 : decode cX14_both 112 = .ok (.iconst 0, 1) := by decide +kernel
theorem dX14_both_113 : decode cX14_both 113 = .ok (.ireturn, 1) := by decide +kernel
theorem dX14_both_114 : decode cX14_both 114 = .ok (.iload_n 2, 1) := by decide +kernel
theorem dX14_both_115 : decode cX14_both 115 = .ok (.iload_n 3, 1) := by decide +kernel
theorem dX14_both_116 : decode cX14_both 116 = .ok (.if_icmp .ne 7, 3) := by decide +kernel
theorem dX14_both_119 : decode cX14_both 119 = .ok (.iconst 1, 1) := by decide +kernel
theorem dX14_both_120 : decode cX14_both 120 = .ok (.goto 4, 3) := by decide +kernel
theorem dX14_both_123 : decode cX14_both 123 = .ok (.iconst 0, 1) := by decide +kernel
theorem dX14_both_124 : decode cX14_both 124 = .ok (.ireturn, 1) := by decide +kernel
theorem dX14_run_0 : decode cX14_run 0 = .ok (.aload_n 0, 1) := by decide +kernel
theorem dX14_run_1 : decode cX14_run 1 = .ok (.iconst 0, 1) := by decide +kernel
theorem dX14_run_2 : decode cX14_run 2 = .ok (.putfield 76, 3) := by decide +kernel
theorem dX14_run_5 : decode cX14_run 5 = .ok (.aload_n 0, 1) := by decide +kernel
theorem dX14_run_6 : decode cX14_run 6 = .ok (.iload_n 1, 1) := by decide +kernel
theorem dX14_run_7 : decode cX14_run 7 = .ok (.invokevirtual 336, 3) := by decide +kernel
theorem dX14_run_10 : decode cX14_run 10 = .ok (.ifCond .ne 9, 3) := by decide +kernel
theorem dX14_run_13 : decode cX14_run 13 = .ok (.aload_n 0, 1) := by decide +kernel
theorem dX14_run_14 : decode cX14_run 14 = .ok (.iconst 1, 1) := by decide +kernel
theorem dX14_run_15 : decode cX14_run 15 = .ok (.invokevirtual 307, 3) := by decide +kernel
theorem dX14_run_18 : decode cX14_run 18 = .ok (.ireturn, 1) := by decide +kernel
theorem dX14_run_19 : decode cX14_run 19 = .ok (.iload 5, 2) := by decide +kernel
theorem dX14_run_21 : decode cX14_run 21 = .ok (.iconst 1, 1) := by decide +kernel
theorem dX14_run_22 : decode cX14_run 22 = .ok (.sipush 2000, 3) := by decide +kernel
theorem dX14_run_25 : decode cX14_run 25 = .ok (.invokestatic 407, 3) := by decide +kernel
theorem dX14_run_28 : decode cX14_run 28 = .ok (.ifCond .ne 9, 3) := by decide +kernel
theorem dX14_run_31 : decode cX14_run 31 = .ok (.aload_n 0, 1) := by decide +kernel
theorem dX14_run_32 : decode cX14_run 32 = .ok (.iconst 2, 1) := by decide +kernel
theorem dX14_run_33 : decode cX14_run 33 = .ok (.invokevirtual 307, 3) := by decide +kernel
theorem dX14_run_36 : decode cX14_run 36 = .ok (.ireturn, 1) := by decide +kernel
theorem dX14_run_37 : decode cX14_run 37 = .ok (.aload_n 0, 1) := by decide +kernel
theorem dX14_run_38 : decode cX14_run 38 = .ok (.iload_n 1, 1) := by decide +kernel
theorem dX14_run_39 : decode cX14_run 39 = .ok (.iload_n 2, 1) := by decide +kernel
theorem dX14_run_40 : decode cX14_run 40 = .ok (.iload_n 3, 1) := by decide +kernel
theorem dX14_run_41 : decode cX14_run 41 = .ok (.iload 4, 2) := by decide +kernel
theorem dX14_run_43 : decode cX14_run 43 = .ok (.iload 5, 2) := by decide +kernel
theorem dX14_run_45 : decode cX14_run 45 = .ok (.iconst (-1), 1) := by decide +kernel
theorem dX14_run_46 : decode cX14_run 46 = .ok (.invokevirtual 411, 3) := by decide +kernel
theorem dX14_run_49 : decode cX14_run 49 = .ok (.aload_n 0, 1) := by decide +kernel
theorem dX14_run_50 : decode cX14_run 50 = .ok (.getfield 40, 3) := by decide +kernel
theorem dX14_run_53 : decode cX14_run 53 = .ok (.astore 6, 2) := by decide +kernel
theorem dX14_run_55 : decode cX14_run 55 = .ok (.aload_n 0, 1) := by decide +kernel
theorem dX14_run_56 : decode cX14_run 56 = .ok (.aload_n 0, 1) := by decide +kernel
theorem dX14_run_57 : decode cX14_run 57 = .ok (.getfield 44, 3) := by decide +kernel
theorem dX14_run_60 : decode cX14_run 60 = .ok (.putfield 40, 3) := by decide +kernel
theorem dX14_run_63 : decode cX14_run 63 = .ok (.aload_n 0, 1) := by decide +kernel
theorem dX14_run_64 : decode cX14_run 64 = .ok (.aload 6, 2) := by decide +kernel
theorem dX14_run_66 : decode cX14_run 66 = .ok (.putfield 44, 3) := by decide +kernel
theorem dX14_run_69 : decode cX14_run 69 = .ok (.aload_n 0, 1) := by decide +kernel
theorem dX14_run_70 : decode cX14_run 70 = .ok (.iconst 1, 1) := by decide +kernel
theorem dX14_run_71 : decode cX14_run 71 = .ok (.putfield 330, 3) := by decide +kernel
theorem dX14_run_74 : decode cX14_run 74 = .ok (.aload_n 0, 1) := by decide +kernel
theorem dX14_run_75 : decode cX14_run 75 = .ok (.aload_n 0, 1) := by decide +kernel
theorem dX14_run_76 : decode cX14_run 76 = .ok (.getfield 40, 3) := by decide +kernel
theorem dX14_run_79 : decode cX14_run 79 = .ok (.getfield 350, 3) := by decide +kernel
theorem dX14_run_82 : decode cX14_run 82 = .ok (.invokevirtual 333, 3) := by decide +kernel
theorem dX14_run_85 : decode cX14_run 85 = .ok (.ireturn, 1) := by decide +kernel
theorem dX14_lines_0 : decode cX14_lines 0 = .ok (.iconst 0, 1) := by decide +kernel
theorem dX14_lines_1 : decode cX14_lines 1 = .ok (.istore_n 2, 1) := by decide +kernel
theorem dX14_lines_2 : decode cX14_lines 2 = .ok (.iconst 0, 1) := by decide +kernel
theorem dX14_lines_3 : decode cX14_lines 3 = .ok (.istore_n 3, 1) := by decide +kernel
theorem dX14_lines_4 : decode cX14_lines 4 = .ok (.iload_n 3, 1) := by decide +kernel
theorem dX14_lines_5 : decode cX14_lines 5 = .ok (.bipush 60, 2) := by decide +kernel
theorem dX14_lines_7 : decode cX14_lines 7 = .ok (.if_icmp .ge 27, 3) := by decide +kernel
theorem dX14_lines_10 : decode cX14_lines 10 = .ok (.iload_n 2, 1) := by decide +kernel
theorem dX14_lines_11 : decode cX14_lines 11 = .ok (.lload_n 0, 1) := by decide +kernel
theorem dX14_lines_12 : decode cX14_lines 12 = .ok (.iload_n 3, 1) := by decide +kernel
theorem dX14_lines_13 : decode cX14_lines 13 = .ok (.lshr, 1) := by decide +kernel
theorem dX14_lines_14 : decode cX14_lines 14 = .ok (.lconst 1, 1) := by decide +kernel
theorem dX14_lines_15 : decode cX14_lines 15 = .ok (.land, 1) := by decide +kernel
theorem dX14_lines_16 : decode cX14_lines 16 = .ok (.lconst 1, 1) := by decide +kernel
theorem dX14_lines_17 : decode cX14_lines 17 = .ok (.lcmp, 1) := by decide +kernel
theorem dX14_lines_18 : decode cX14_lines 18 = .ok (.ifCond .ne 7, 3) := by decide +kernel
theorem dX14_lines_21 : decode cX14_lines 21 = .ok (.iconst 1, 1) := by decide +kernel
theorem dX14_lines_22 : decode cX14_lines 22 = .ok (.goto 4, 3) := by decide +kernel
theorem dX14_lines_25 : decode cX14_lines 25 = .ok (.iconst 0, 1) := by decide +kernel
theorem dX14_lines_26 : decode cX14_lines 26 = .ok (.iadd, 1) := by decide +kernel
theorem dX14_lines_27 : decode cX14_lines 27 = .ok (.istore_n 2, 1) := by decide +kernel
theorem dX14_lines_28 : decode cX14_lines 28 = .ok (.iinc 3 1, 3) := by decide +kernel
theorem dX14_lines_31 : decode cX14_lines 31 = .ok (.goto (-27), 3) := by decide +kernel
theorem dX14_lines_34 : decode cX14_lines 34 = .ok (.iload_n 2, 1) := by decide +kernel
theorem dX14_lines_35 : decode cX14_lines 35 = .ok (.ireturn, 1) := by decide +kernel
theorem dX14_ran_0 : decode cX14_ran 0 = .ok (.aload_n 0, 1) := by decide +kernel
theorem dX14_ran_1 : decode cX14_ran 1 = .ok (.iconst 0, 1) := by decide +kernel
theorem dX14_ran_2 : decode cX14_ran 2 = .ok (.putfield 76, 3) := by decide +kernel
theorem dX14_ran_5 : decode cX14_ran 5 = .ok (.aload_n 0, 1) := by decide +kernel
theorem dX14_ran_6 : decode cX14_ran 6 = .ok (.getfield 330, 3) := by decide +kernel
theorem dX14_ran_9 : decode cX14_ran 9 = .ok (.ifCond .ne 9, 3) := by decide +kernel
theorem dX14_ran_12 : decode cX14_ran 12 = .ok (.aload_n 0, 1) := by decide +kernel
theorem dX14_ran_13 : decode cX14_ran 13 = .ok (.iconst 5, 1) := by decide +kernel
theorem dX14_ran_14 : decode cX14_ran 14 = .ok (.invokevirtual 307, 3) := by decide +kernel
theorem dX14_ran_17 : decode cX14_ran 17 = .ok (.ireturn, 1) := by decide +kernel
theorem dX14_ran_18 : decode cX14_ran 18 = .ok (.iload_n 1, 1) := by decide +kernel
theorem dX14_ran_19 : decode cX14_ran 19 = .ok (.tableswitch 112 0 5 #[37, 49, 61, 73, 85, 100], 37) := by decide +kernel
theorem dX14_ran_56 : decode cX14_ran 56 = .ok (.aload_n 0, 1) := by decide +kernel
theorem dX14_ran_57 : decode cX14_ran 57 = .ok (.aload_n 0, 1) := by decide +kernel
theorem dX14_ran_58 : decode cX14_ran 58 = .ok (.getfield 40, 3) := by decide +kernel
theorem dX14_ran_61 : decode cX14_ran 61 = .ok (.getfield 352, 3) := by decide +kernel
theorem dX14_ran_64 : decode cX14_ran 64 = .ok (.invokevirtual 333, 3) := by decide +kernel
theorem dX14_ran_67 : decode cX14_ran 67 = .ok (.ireturn, 1) := by decide +kernel
theorem dX14_ran_68 : decode cX14_ran 68 = .ok (.aload_n 0, 1) := by decide +kernel
theorem dX14_ran_69 : decode cX14_ran 69 = .ok (.aload_n 0, 1) := by decide +kernel
theorem dX14_ran_70 : decode cX14_ran 70 = .ok (.getfield 40, 3) := by decide +kernel
theorem dX14_ran_73 : decode cX14_ran 73 = .ok (.getfield 354, 3) := by decide +kernel
theorem dX14_ran_76 : decode cX14_ran 76 = .ok (.invokevirtual 333, 3) := by decide +kernel
theorem dX14_ran_79 : decode cX14_ran 79 = .ok (.ireturn, 1) := by decide +kernel
theorem dX14_ran_80 : decode cX14_ran 80 = .ok (.aload_n 0, 1) := by decide +kernel
theorem dX14_ran_81 : decode cX14_ran 81 = .ok (.aload_n 0, 1) := by decide +kernel
theorem dX14_ran_82 : decode cX14_ran 82 = .ok (.getfield 40, 3) := by decide +kernel
theorem dX14_ran_85 : decode cX14_ran 85 = .ok (.getfield 357, 3) := by decide +kernel
theorem dX14_ran_88 : decode cX14_ran 88 = .ok (.invokevirtual 333, 3) := by decide +kernel
theorem dX14_ran_91 : decode cX14_ran 91 = .ok (.ireturn, 1) := by decide +kernel
theorem dX14_ran_92 : decode cX14_ran 92 = .ok (.aload_n 0, 1) := by decide +kernel
theorem dX14_ran_93 : decode cX14_ran 93 = .ok (.aload_n 0, 1) := by decide +kernel
theorem dX14_ran_94 : decode cX14_ran 94 = .ok (.getfield 40, 3) := by decide +kernel
theorem dX14_ran_97 : decode cX14_ran 97 = .ok (.getfield 360, 3) := by decide +kernel
theorem dX14_ran_100 : decode cX14_ran 100 = .ok (.invokevirtual 333, 3) := by decide +kernel
theorem dX14_ran_103 : decode cX14_ran 103 = .ok (.ireturn, 1) := by decide +kernel
theorem dX14_ran_104 : decode cX14_ran 104 = .ok (.aload_n 0, 1) := by decide +kernel
theorem dX14_ran_105 : decode cX14_ran 105 = .ok (.aload_n 0, 1) := by decide +kernel
theorem dX14_ran_106 : decode cX14_ran 106 = .ok (.getfield 40, 3) := by decide +kernel
theorem dX14_ran_109 : decode cX14_ran 109 = .ok (.getfield 366, 3) := by decide +kernel
theorem dX14_ran_112 : decode cX14_ran 112 = .ok (.invokestatic 414, 3) := by decide +kernel
theorem dX14_ran_115 : decode cX14_ran 115 = .ok (.invokevirtual 333, 3) := by decide +kernel
theorem dX14_ran_118 : decode cX14_ran 118 = .ok (.ireturn, 1) := by decide +kernel
theorem dX14_ran_119 : decode cX14_ran 119 = .ok (.aload_n 0, 1) := by decide +kernel
theorem dX14_ran_120 : decode cX14_ran 120 = .ok (.aload_n 0, 1) := by decide +kernel
theorem dX14_ran_121 : decode cX14_ran 121 = .ok (.getfield 40, 3) := by decide +kernel
theorem dX14_ran_124 : decode cX14_ran 124 = .ok (.getfield 363, 3) := by decide +kernel
theorem dX14_ran_127 : decode cX14_ran 127 = .ok (.invokevirtual 333, 3) := by decide +kernel
theorem dX14_ran_130 : decode cX14_ran 130 = .ok (.ireturn, 1) := by decide +kernel
theorem dX14_ran_131 : decode cX14_ran 131 = .ok (.aload_n 0, 1) := by decide +kernel
theorem dX14_ran_132 : decode cX14_ran 132 = .ok (.iconst 2, 1) := by decide +kernel
theorem dX14_ran_133 : decode cX14_ran 133 = .ok (.invokevirtual 307, 3) := by decide +kernel
theorem dX14_ran_136 : decode cX14_ran 136 = .ok (.ireturn, 1) := by decide +kernel
theorem dX14_said_0 : decode cX14_said 0 = .ok (.aload_n 0, 1) := by decide +kernel
theorem dX14_said_1 : decode cX14_said 1 = .ok (.aload_n 0, 1) := by decide +kernel
theorem dX14_said_2 : decode cX14_said 2 = .ok (.getfield 330, 3) := by decide +kernel
theorem dX14_said_5 : decode cX14_said 5 = .ok (.ifCond .eq 23, 3) := by decide +kernel
theorem dX14_said_8 : decode cX14_said 8 = .ok (.iload_n 1, 1) := by decide +kernel
theorem dX14_said_9 : decode cX14_said 9 = .ok (.ifCond .lt 19, 3) := by decide +kernel
theorem dX14_said_12 : decode cX14_said 12 = .ok (.iload_n 1, 1) := by decide +kernel
theorem dX14_said_13 : decode cX14_said 13 = .ok (.aload_n 0, 1) := by decide +kernel
theorem dX14_said_14 : decode cX14_said 14 = .ok (.getfield 40, 3) := by decide +kernel
theorem dX14_said_17 : decode cX14_said 17 = .ok (.getfield 357, 3) := by decide +kernel
theorem dX14_said_20 : decode cX14_said 20 = .ok (.bipush 60, 2) := by decide +kernel
theorem dX14_said_22 : decode cX14_said 22 = .ok (.invokestatic 416, 3) := by decide +kernel
theorem dX14_said_25 : decode cX14_said 25 = .ok (.if_icmp .lt 7, 3) := by decide +kernel
theorem dX14_said_28 : decode cX14_said 28 = .ok (.iconst 1, 1) := by decide +kernel
theorem dX14_said_29 : decode cX14_said 29 = .ok (.goto 4, 3) := by decide +kernel
theorem dX14_said_32 : decode cX14_said 32 = .ok (.iconst 0, 1) := by decide +kernel
theorem dX14_said_33 : decode cX14_said 33 = .ok (.putfield 76, 3) := by decide +kernel
theorem dX14_said_36 : decode cX14_said 36 = .ok (.aload_n 0, 1) := by decide +kernel
theorem dX14_said_37 : decode cX14_said 37 = .ok (.getfield 76, 3) := by decide +kernel
theorem dX14_said_40 : decode cX14_said 40 = .ok (.ifCond .le 7, 3) := by decide +kernel
theorem dX14_said_43 : decode cX14_said 43 = .ok (.iconst 0, 1) := by decide +kernel
theorem dX14_said_44 : decode cX14_said 44 = .ok (.goto 12, 3) := by decide +kernel
theorem dX14_said_47 : decode cX14_said 47 = .ok (.aload_n 0, 1) := by decide +kernel
theorem dX14_said_48 : decode cX14_said 48 = .ok (.getfield 40, 3) := by decide +kernel
theorem dX14_said_51 : decode cX14_said 51 = .ok (.getfield 397, 3) := by decide +kernel
theorem dX14_said_54 : decode cX14_said 54 = .ok (.iload_n 1, 1) := by decide +kernel
theorem dX14_said_55 : decode cX14_said 55 = .ok (.iaload, 1) := by decide +kernel
theorem dX14_said_56 : decode cX14_said 56 = .ok (.ireturn, 1) := by decide +kernel
theorem dX14_trace_0 : decode cX14_trace 0 = .ok (.aload_n 0, 1) := by decide +kernel
theorem dX14_trace_1 : decode cX14_trace 1 = .ok (.aload_n 0, 1) := by decide +kernel
theorem dX14_trace_2 : decode cX14_trace 2 = .ok (.getfield 330, 3) := by decide +kernel
theorem dX14_trace_5 : decode cX14_trace 5 = .ok (.ifCond .eq 33, 3) := by decide +kernel
theorem dX14_trace_8 : decode cX14_trace 8 = .ok (.iload_n 1, 1) := by decide +kernel
theorem dX14_trace_9 : decode cX14_trace 9 = .ok (.ifCond .lt 29, 3) := by decide +kernel
theorem dX14_trace_12 : decode cX14_trace 12 = .ok (.iload_n 1, 1) := by decide +kernel
theorem dX14_trace_13 : decode cX14_trace 13 = .ok (.aload_n 0, 1) := by decide +kernel
theorem dX14_trace_14 : decode cX14_trace 14 = .ok (.getfield 40, 3) := by decide +kernel
theorem dX14_trace_17 : decode cX14_trace 17 = .ok (.getfield 360, 3) := by decide +kernel
theorem dX14_trace_20 : decode cX14_trace 20 = .ok (.sipush 400, 3) := by decide +kernel
theorem dX14_trace_23 : decode cX14_trace 23 = .ok (.invokestatic 416, 3) := by decide +kernel
theorem dX14_trace_26 : decode cX14_trace 26 = .ok (.if_icmp .ge 12, 3) := by decide +kernel
theorem dX14_trace_29 : decode cX14_trace 29 = .ok (.iload_n 2, 1) := by decide +kernel
theorem dX14_trace_30 : decode cX14_trace 30 = .ok (.iconst 0, 1) := by decide +kernel
theorem dX14_trace_31 : decode cX14_trace 31 = .ok (.iconst 3, 1) := by decide +kernel
theorem dX14_trace_32 : decode cX14_trace 32 = .ok (.invokestatic 407, 3) := by decide +kernel
theorem dX14_trace_35 : decode cX14_trace 35 = .ok (.ifCond .ne 7, 3) := by decide +kernel
theorem dX14_trace_38 : decode cX14_trace 38 = .ok (.iconst 1, 1) := by decide +kernel
theorem dX14_trace_39 : decode cX14_trace 39 = .ok (.goto 4, 3) := by decide +kernel
theorem dX14_trace_42 : decode cX14_trace 42 = .ok (.iconst 0, 1) := by decide +kernel
theorem dX14_trace_43 : decode cX14_trace 43 = .ok (.putfield 76, 3) := by decide +kernel
theorem dX14_trace_46 : decode cX14_trace 46 = .ok (.aload_n 0, 1) := by decide +kernel
theorem dX14_trace_47 : decode cX14_trace 47 = .ok (.getfield 76, 3) := by decide +kernel
theorem dX14_trace_50 : decode cX14_trace 50 = .ok (.ifCond .le 7, 3) := by decide +kernel
theorem dX14_trace_53 : decode cX14_trace 53 = .ok (.iconst 0, 1) := by decide +kernel
theorem dX14_trace_54 : decode cX14_trace 54 = .ok (.goto 16, 3) := by decide +kernel
theorem dX14_trace_57 : decode cX14_trace 57 = .ok (.aload_n 0, 1) := by decide +kernel
theorem dX14_trace_58 : decode cX14_trace 58 = .ok (.getfield 40, 3) := by decide +kernel
theorem dX14_trace_61 : decode cX14_trace 61 = .ok (.getfield 400, 3) := by decide +kernel
theorem dX14_trace_64 : decode cX14_trace 64 = .ok (.iconst 4, 1) := by decide +kernel
theorem dX14_trace_65 : decode cX14_trace 65 = .ok (.iload_n 1, 1) := by decide +kernel
theorem dX14_trace_66 : decode cX14_trace 66 = .ok (.imul, 1) := by decide +kernel
theorem dX14_trace_67 : decode cX14_trace 67 = .ok (.iload_n 2, 1) := by decide +kernel
theorem dX14_trace_68 : decode cX14_trace 68 = .ok (.iadd, 1) := by decide +kernel
theorem dX14_trace_69 : decode cX14_trace 69 = .ok (.iaload, 1) := by decide +kernel
theorem dX14_trace_70 : decode cX14_trace 70 = .ok (.ireturn, 1) := by decide +kernel
theorem dX14_covered_0 : decode cX14_covered 0 = .ok (.aload_n 0, 1) := by decide +kernel
theorem dX14_covered_1 : decode cX14_covered 1 = .ok (.iconst 0, 1) := by decide +kernel
theorem dX14_covered_2 : decode cX14_covered 2 = .ok (.putfield 76, 3) := by decide +kernel
theorem dX14_covered_5 : decode cX14_covered 5 = .ok (.aload_n 0, 1) := by decide +kernel
theorem dX14_covered_6 : decode cX14_covered 6 = .ok (.getfield 330, 3) := by decide +kernel
theorem dX14_covered_9 : decode cX14_covered 9 = .ok (.ifCond .eq 26, 3) := by decide +kernel
theorem dX14_covered_12 : decode cX14_covered 12 = .ok (.aload_n 0, 1) := by decide +kernel
theorem dX14_covered_13 : decode cX14_covered 13 = .ok (.iload_n 1, 1) := by decide +kernel
theorem dX14_covered_14 : decode cX14_covered 14 = .ok (.invokevirtual 341, 3) := by decide +kernel
theorem dX14_covered_17 : decode cX14_covered 17 = .ok (.ifCond .eq 18, 3) := by decide +kernel
theorem dX14_covered_20 : decode cX14_covered 20 = .ok (.aload_n 0, 1) := by decide +kernel
theorem dX14_covered_21 : decode cX14_covered 21 = .ok (.getfield 40, 3) := by decide +kernel
theorem dX14_covered_24 : decode cX14_covered 24 = .ok (.getfield 366, 3) := by decide +kernel
theorem dX14_covered_27 : decode cX14_covered 27 = .ok (.iload_n 1, 1) := by decide +kernel
theorem dX14_covered_28 : decode cX14_covered 28 = .ok (.lshr, 1) := by decide +kernel
theorem dX14_covered_29 : decode cX14_covered 29 = .ok (.lconst 1, 1) := by decide +kernel
theorem dX14_covered_30 : decode cX14_covered 30 = .ok (.land, 1) := by decide +kernel
theorem dX14_covered_31 : decode cX14_covered 31 = .ok (.l2i, 1) := by decide +kernel
theorem dX14_covered_32 : decode cX14_covered 32 = .ok (.goto 4, 3) := by decide +kernel
theorem dX14_covered_35 : decode cX14_covered 35 = .ok (.iconst (-1), 1) := by decide +kernel
theorem dX14_covered_36 : decode cX14_covered 36 = .ok (.ireturn, 1) := by decide +kernel
theorem dX14_place_0 : decode cX14_place 0 = .ok (.aload_n 0, 1) := by decide +kernel
theorem dX14_place_1 : decode cX14_place 1 = .ok (.iconst 0, 1) := by decide +kernel
theorem dX14_place_2 : decode cX14_place 2 = .ok (.putfield 76, 3) := by decide +kernel
theorem dX14_place_5 : decode cX14_place 5 = .ok (.aload_n 0, 1) := by decide +kernel
theorem dX14_place_6 : decode cX14_place 6 = .ok (.getfield 330, 3) := by decide +kernel
theorem dX14_place_9 : decode cX14_place 9 = .ok (.ifCond .ne 9, 3) := by decide +kernel
theorem dX14_place_12 : decode cX14_place 12 = .ok (.aload_n 0, 1) := by decide +kernel
theorem dX14_place_13 : decode cX14_place 13 = .ok (.iconst 5, 1) := by decide +kernel
theorem dX14_place_14 : decode cX14_place 14 = .ok (.invokevirtual 307, 3) := by decide +kernel
theorem dX14_place_17 : decode cX14_place 17 = .ok (.ireturn, 1) := by decide +kernel
theorem dX14_place_18 : decode cX14_place 18 = .ok (.iload_n 1, 1) := by decide +kernel
theorem dX14_place_19 : decode cX14_place 19 = .ok (.iconst 0, 1) := by decide +kernel
theorem dX14_place_20 : decode cX14_place 20 = .ok (.bipush 7, 2) := by decide +kernel
theorem dX14_place_22 : decode cX14_place 22 = .ok (.invokestatic 407, 3) := by decide +kernel
theorem dX14_place_25 : decode cX14_place 25 = .ok (.ifCond .eq 19, 3) := by decide +kernel
theorem dX14_place_28 : decode cX14_place 28 = .ok (.aload_n 0, 1) := by decide +kernel
theorem dX14_place_29 : decode cX14_place 29 = .ok (.aload_n 0, 1) := by decide +kernel
theorem dX14_place_30 : decode cX14_place 30 = .ok (.getfield 40, 3) := by decide +kernel
theorem dX14_place_33 : decode cX14_place 33 = .ok (.getfield 382, 3) := by decide +kernel
theorem dX14_place_36 : decode cX14_place 36 = .ok (.iload_n 1, 1) := by decide +kernel
theorem dX14_place_37 : decode cX14_place 37 = .ok (.iaload, 1) := by decide +kernel
theorem dX14_place_38 : decode cX14_place 38 = .ok (.invokevirtual 333, 3) := by decide +kernel
theorem dX14_place_41 : decode cX14_place 41 = .ok (.goto 8, 3) := by decide +kernel
theorem dX14_place_44 : decode cX14_place 44 = .ok (.aload_n 0, 1) := by decide +kernel
theorem dX14_place_45 : decode cX14_place 45 = .ok (.iconst 2, 1) := by decide +kernel
theorem dX14_place_46 : decode cX14_place 46 = .ok (.invokevirtual 307, 3) := by decide +kernel
theorem dX14_place_49 : decode cX14_place 49 = .ok (.ireturn, 1) := by decide +kernel
theorem dX14_wrong_0 : decode cX14_wrong 0 = .ok (.aload_n 0, 1) := by decide +kernel
theorem dX14_wrong_1 : decode cX14_wrong 1 = .ok (.iconst 0, 1) := by decide +kernel
theorem dX14_wrong_2 : decode cX14_wrong 2 = .ok (.putfield 76, 3) := by decide +kernel
theorem dX14_wrong_5 : decode cX14_wrong 5 = .ok (.aload_n 0, 1) := by decide +kernel
theorem dX14_wrong_6 : decode cX14_wrong 6 = .ok (.iload_n 2, 1) := by decide +kernel
theorem dX14_wrong_7 : decode cX14_wrong 7 = .ok (.invokevirtual 336, 3) := by decide +kernel
theorem dX14_wrong_10 : decode cX14_wrong 10 = .ok (.ifCond .ne 9, 3) := by decide +kernel
theorem dX14_wrong_13 : decode cX14_wrong 13 = .ok (.aload_n 0, 1) := by decide +kernel
theorem dX14_wrong_14 : decode cX14_wrong 14 = .ok (.iconst 1, 1) := by decide +kernel
theorem dX14_wrong_15 : decode cX14_wrong 15 = .ok (.invokevirtual 307, 3) := by decide +kernel
theorem dX14_wrong_18 : decode cX14_wrong 18 = .ok (.ireturn, 1) := by decide +kernel
theorem dX14_wrong_19 : decode cX14_wrong 19 = .ok (.iload_n 1, 1) := by decide +kernel
theorem dX14_wrong_20 : decode cX14_wrong 20 = .ok (.iconst 0, 1) := by decide +kernel
theorem dX14_wrong_21 : decode cX14_wrong 21 = .ok (.iconst 3, 1) := by decide +kernel
theorem dX14_wrong_22 : decode cX14_wrong 22 = .ok (.invokestatic 407, 3) := by decide +kernel
theorem dX14_wrong_25 : decode cX14_wrong 25 = .ok (.ifCond .ne 9, 3) := by decide +kernel
theorem dX14_wrong_28 : decode cX14_wrong 28 = .ok (.aload_n 0, 1) := by decide +kernel
theorem dX14_wrong_29 : decode cX14_wrong 29 = .ok (.iconst 2, 1) := by decide +kernel
theorem dX14_wrong_30 : decode cX14_wrong 30 = .ok (.invokevirtual 307, 3) := by decide +kernel
theorem dX14_wrong_33 : decode cX14_wrong 33 = .ok (.ireturn, 1) := by decide +kernel
theorem dX14_wrong_34 : decode cX14_wrong 34 = .ok (.aload_n 0, 1) := by decide +kernel
theorem dX14_wrong_35 : decode cX14_wrong 35 = .ok (.iload_n 2, 1) := by decide +kernel
theorem dX14_wrong_36 : decode cX14_wrong 36 = .ok (.iload_n 3, 1) := by decide +kernel
theorem dX14_wrong_37 : decode cX14_wrong 37 = .ok (.iload 4, 2) := by decide +kernel
theorem dX14_wrong_39 : decode cX14_wrong 39 = .ok (.iload 5, 2) := by decide +kernel
theorem dX14_wrong_41 : decode cX14_wrong 41 = .ok (.sipush 2000, 3) := by decide +kernel
theorem dX14_wrong_44 : decode cX14_wrong 44 = .ok (.iload_n 1, 1) := by decide +kernel
theorem dX14_wrong_45 : decode cX14_wrong 45 = .ok (.invokevirtual 411, 3) := by decide +kernel
theorem dX14_wrong_48 : decode cX14_wrong 48 = .ok (.aload_n 0, 1) := by decide +kernel
theorem dX14_wrong_49 : decode cX14_wrong 49 = .ok (.aload_n 0, 1) := by decide +kernel
theorem dX14_wrong_50 : decode cX14_wrong 50 = .ok (.getfield 44, 3) := by decide +kernel
theorem dX14_wrong_53 : decode cX14_wrong 53 = .ok (.getfield 352, 3) := by decide +kernel
theorem dX14_wrong_56 : decode cX14_wrong 56 = .ok (.invokevirtual 333, 3) := by decide +kernel
theorem dX14_wrong_59 : decode cX14_wrong 59 = .ok (.ireturn, 1) := by decide +kernel
theorem dX14_unlike_0 : decode cX14_unlike 0 = .ok (.aload_n 0, 1) := by decide +kernel
theorem dX14_unlike_1 : decode cX14_unlike 1 = .ok (.iconst 0, 1) := by decide +kernel
theorem dX14_unlike_2 : decode cX14_unlike 2 = .ok (.putfield 76, 3) := by decide +kernel
theorem dX14_unlike_5 : decode cX14_unlike 5 = .ok (.aload_n 0, 1) := by decide +kernel
theorem dX14_unlike_6 : decode cX14_unlike 6 = .ok (.iload_n 1, 1) := by decide +kernel
theorem dX14_unlike_7 : decode cX14_unlike 7 = .ok (.invokevirtual 336, 3) := by decide +kernel
theorem dX14_unlike_10 : decode cX14_unlike 10 = .ok (.ifCond .ne 9, 3) := by decide +kernel
theorem dX14_unlike_13 : decode cX14_unlike 13 = .ok (.aload_n 0, 1) := by decide +kernel
theorem dX14_unlike_14 : decode cX14_unlike 14 = .ok (.iconst 1, 1) := by decide +kernel
theorem dX14_unlike_15 : decode cX14_unlike 15 = .ok (.invokevirtual 307, 3) := by decide +kernel
theorem dX14_unlike_18 : decode cX14_unlike 18 = .ok (.ireturn, 1) := by decide +kernel
theorem dX14_unlike_19 : decode cX14_unlike 19 = .ok (.aload_n 0, 1) := by decide +kernel
theorem dX14_unlike_20 : decode cX14_unlike 20 = .ok (.iload_n 1, 1) := by decide +kernel
theorem dX14_unlike_21 : decode cX14_unlike 21 = .ok (.iload_n 2, 1) := by decide +kernel
theorem dX14_unlike_22 : decode cX14_unlike 22 = .ok (.iload_n 3, 1) := by decide +kernel
theorem dX14_unlike_23 : decode cX14_unlike 23 = .ok (.iload 4, 2) := by decide +kernel
theorem dX14_unlike_25 : decode cX14_unlike 25 = .ok (.sipush 2000, 3) := by decide +kernel
theorem dX14_unlike_28 : decode cX14_unlike 28 = .ok (.iconst (-1), 1) := by decide +kernel
theorem dX14_unlike_29 : decode cX14_unlike 29 = .ok (.invokevirtual 411, 3) := by decide +kernel
theorem dX14_unlike_32 : decode cX14_unlike 32 = .ok (.aload_n 0, 1) := by decide +kernel
theorem dX14_unlike_33 : decode cX14_unlike 33 = .ok (.getfield 44, 3) := by decide +kernel
theorem dX14_unlike_36 : decode cX14_unlike 36 = .ok (.getfield 350, 3) := by decide +kernel
theorem dX14_unlike_39 : decode cX14_unlike 39 = .ok (.istore 5, 2) := by decide +kernel
theorem dX14_unlike_41 : decode cX14_unlike 41 = .ok (.aload_n 0, 1) := by decide +kernel
theorem dX14_unlike_42 : decode cX14_unlike 42 = .ok (.getfield 44, 3) := by decide +kernel
theorem dX14_unlike_45 : decode cX14_unlike 45 = .ok (.getfield 352, 3) := by decide +kernel
theorem dX14_unlike_48 : decode cX14_unlike 48 = .ok (.istore 6, 2) := by decide +kernel
theorem dX14_unlike_50 : decode cX14_unlike 50 = .ok (.aload_n 0, 1) := by decide +kernel
theorem dX14_unlike_51 : decode cX14_unlike 51 = .ok (.getfield 44, 3) := by decide +kernel
theorem dX14_unlike_54 : decode cX14_unlike 54 = .ok (.getfield 357, 3) := by decide +kernel
theorem dX14_unlike_57 : decode cX14_unlike 57 = .ok (.istore 7, 2) := by decide +kernel
theorem dX14_unlike_59 : decode cX14_unlike 59 = .ok (.iconst 0, 1) := by decide +kernel
theorem dX14_unlike_60 : decode cX14_unlike 60 = .ok (.istore 8, 2) := by decide +kernel
theorem dX14_unlike_62 : decode cX14_unlike 62 = .ok (.iload 8, 2) := by decide +kernel
theorem dX14_unlike_64 : decode cX14_unlike 64 = .ok (.bipush 60, 2) := by decide +kernel
theorem dX14_unlike_66 : decode cX14_unlike 66 = .ok (.if_icmp .ge 26, 3) := by decide +kernel
theorem dX14_unlike_69 : decode cX14_unlike 69 = .ok (.aload_n 0, 1) := by decide +kernel
theorem dX14_unlike_70 : decode cX14_unlike 70 = .ok (.getfield 51, 3) := by decide +kernel
theorem dX14_unlike_73 : decode cX14_unlike 73 = .ok (.iload 8, 2) := by decide +kernel
theorem dX14_unlike_75 : decode cX14_unlike 75 = .ok (.aload_n 0, 1) := by decide +kernel
theorem dX14_unlike_76 : decode cX14_unlike 76 = .ok (.getfield 44, 3) := by decide +kernel
theorem dX14_unlike_79 : decode cX14_unlike 79 = .ok (.getfield 397, 3) := by decide +kernel
theorem dX14_unlike_82 : decode cX14_unlike 82 = .ok (.iload 8, 2) := by decide +kernel
theorem dX14_unlike_84 : decode cX14_unlike 84 = .ok (.iaload, 1) := by decide +kernel
theorem dX14_unlike_85 : decode cX14_unlike 85 = .ok (.iastore, 1) := by decide +kernel
theorem dX14_unlike_86 : decode cX14_unlike 86 = .ok (.iinc 8 1, 3) := by decide +kernel
theorem dX14_unlike_89 : decode cX14_unlike 89 = .ok (.goto (-27), 3) := by decide +kernel
theorem dX14_unlike_92 : decode cX14_unlike 92 = .ok (.iconst 0, 1) := by decide +kernel
theorem dX14_unlike_93 : decode cX14_unlike 93 = .ok (.istore 8, 2) := by decide +kernel
theorem dX14_unlike_95 : decode cX14_unlike 95 = .ok (.iconst 0, 1) := by decide +kernel
theorem dX14_unlike_96 : decode cX14_unlike 96 = .ok (.istore 9, 2) := by decide +kernel
theorem dX14_unlike_98 : decode cX14_unlike 98 = .ok (.iload 9, 2) := by decide +kernel
theorem dX14_unlike_100 : decode cX14_unlike 100 = .ok (.iconst 4, 1) := by decide +kernel
theorem dX14_unlike_101 : decode cX14_unlike 101 = .ok (.if_icmp .ge 136, 3) := by decide +kernel
theorem dX14_unlike_104 : decode cX14_unlike 104 = .ok (.aload_n 0, 1) := by decide +kernel
theorem dX14_unlike_105 : decode cX14_unlike 105 = .ok (.iload_n 1, 1) := by decide +kernel
theorem dX14_unlike_106 : decode cX14_unlike 106 = .ok (.iload_n 2, 1) := by decide +kernel
theorem dX14_unlike_107 : decode cX14_unlike 107 = .ok (.iload_n 3, 1) := by decide +kernel
theorem dX14_unlike_108 : decode cX14_unlike 108 = .ok (.iload 4, 2) := by decide +kernel
theorem dX14_unlike_110 : decode cX14_unlike 110 = .ok (.sipush 2000, 3) := by decide +kernel
theorem dX14_unlike_113 : decode cX14_unlike 113 = .ok (.iload 9, 2) := by decide +kernel
theorem dX14_unlike_115 : decode cX14_unlike 115 = .ok (.invokevirtual 411, 3) := by decide +kernel
theorem dX14_unlike_118 : decode cX14_unlike 118 = .ok (.aload_n 0, 1) := by decide +kernel
theorem dX14_unlike_119 : decode cX14_unlike 119 = .ok (.getfield 44, 3) := by decide +kernel
theorem dX14_unlike_122 : decode cX14_unlike 122 = .ok (.getfield 350, 3) := by decide +kernel
theorem dX14_unlike_125 : decode cX14_unlike 125 = .ok (.iload 5, 2) := by decide +kernel
theorem dX14_unlike_127 : decode cX14_unlike 127 = .ok (.if_icmp .ne 31, 3) := by decide +kernel
theorem dX14_unlike_130 : decode cX14_unlike 130 = .ok (.aload_n 0, 1) := by decide +kernel
theorem dX14_unlike_131 : decode cX14_unlike 131 = .ok (.getfield 44, 3) := by decide +kernel
theorem dX14_unlike_134 : decode cX14_unlike 134 = .ok (.getfield 352, 3) := by decide +kernel
theorem dX14_unlike_137 : decode cX14_unlike 137 = .ok (.iload 6, 2) := by decide +kernel
theorem dX14_unlike_139 : decode cX14_unlike 139 = .ok (.if_icmp .ne 19, 3) := by decide +kernel
theorem dX14_unlike_142 : decode cX14_unlike 142 = .ok (.aload_n 0, 1) := by decide +kernel
theorem dX14_unlike_143 : decode cX14_unlike 143 = .ok (.getfield 44, 3) := by decide +kernel
theorem dX14_unlike_146 : decode cX14_unlike 146 = .ok (.getfield 357, 3) := by decide +kernel
theorem dX14_unlike_149 : decode cX14_unlike 149 = .ok (.iload 7, 2) := by decide +kernel
theorem dX14_unlike_151 : decode cX14_unlike 151 = .ok (.if_icmp .ne 7, 3) := by decide +kernel
theorem dX14_unlike_154 : decode cX14_unlike 154 = .ok (.iconst 1, 1) := by decide +kernel
theorem dX14_unlike_155 : decode cX14_unlike 155 = .ok (.goto 4, 3) := by decide +kernel
theorem dX14_unlike_158 : decode cX14_unlike 158 = .ok (.iconst 0, 1) := by decide +kernel
theorem dX14_unlike_159 : decode cX14_unlike 159 = .ok (.istore 10, 2) := by decide +kernel
theorem dX14_unlike_161 : decode cX14_unlike 161 = .ok (.iconst 0, 1) := by decide +kernel
theorem dX14_unlike_162 : decode cX14_unlike 162 = .ok (.istore 11, 2) := by decide +kernel
theorem dX14_unlike_164 : decode cX14_unlike 164 = .ok (.iload 11, 2) := by decide +kernel
theorem dX14_unlike_166 : decode cX14_unlike 166 = .ok (.iload 7, 2) := by decide +kernel
theorem dX14_unlike_168 : decode cX14_unlike 168 = .ok (.if_icmp .ge 48, 3) := by decide +kernel
theorem dX14_unlike_171 : decode cX14_unlike 171 = .ok (.iload 11, 2) := by decide +kernel
theorem dX14_unlike_173 : decode cX14_unlike 173 = .ok (.bipush 60, 2) := by decide +kernel
theorem dX14_unlike_175 : decode cX14_unlike 175 = .ok (.if_icmp .ge 41, 3) := by decide +kernel
theorem dX14_unlike_178 : decode cX14_unlike 178 = .ok (.iload 10, 2) := by decide +kernel
theorem dX14_unlike_180 : decode cX14_unlike 180 = .ok (.ifCond .eq 36, 3) := by decide +kernel
theorem dX14_unlike_183 : decode cX14_unlike 183 = .ok (.aload_n 0, 1) := by decide +kernel
theorem dX14_unlike_184 : decode cX14_unlike 184 = .ok (.getfield 44, 3) := by decide +kernel
theorem dX14_unlike_187 : decode cX14_unlike 187 = .ok (.getfield 397, 3) := by decide +kernel
theorem dX14_unlike_190 : decode cX14_unlike 190 = .ok (.iload 11, 2) := by decide +kernel
theorem dX14_unlike_192 : decode cX14_unlike 192 = .ok (.iaload, 1) := by decide +kernel
theorem dX14_unlike_193 : decode cX14_unlike 193 = .ok (.aload_n 0, 1) := by decide +kernel
theorem dX14_unlike_194 : decode cX14_unlike 194 = .ok (.getfield 51, 3) := by decide +kernel
theorem dX14_unlike_197 : decode cX14_unlike 197 = .ok (.iload 11, 2) := by decide +kernel
theorem dX14_unlike_199 : decode cX14_unlike 199 = .ok (.iaload, 1) := by decide +kernel
theorem dX14_unlike_200 : decode cX14_unlike 200 = .ok (.if_icmp .ne 7, 3) := by decide +kernel
theorem dX14_unlike_203 : decode cX14_unlike 203 = .ok (.iconst 1, 1) := by decide +kernel
theorem dX14_unlike_204 : decode cX14_unlike 204 = .ok (.goto 4, 3) := by decide +kernel
theorem dX14_unlike_207 : decode cX14_unlike 207 = .ok (.iconst 0, 1) := by decide +kernel
theorem dX14_unlike_208 : decode cX14_unlike 208 = .ok (.istore 10, 2) := by decide +kernel
theorem dX14_unlike_210 : decode cX14_unlike 210 = .ok (.iinc 11 1, 3) := by decide +kernel
theorem dX14_unlike_213 : decode cX14_unlike 213 = .ok (.goto (-49), 3) := by decide +kernel
theorem dX14_unlike_216 : decode cX14_unlike 216 = .ok (.iload 8, 2) := by decide +kernel
theorem dX14_unlike_218 : decode cX14_unlike 218 = .ok (.iload 10, 2) := by decide +kernel
theorem dX14_unlike_220 : decode cX14_unlike 220 = .ok (.ifCond .eq 7, 3) := by decide +kernel
theorem dX14_unlike_223 : decode cX14_unlike 223 = .ok (.iconst 0, 1) := by decide +kernel
theorem dX14_unlike_224 : decode cX14_unlike 224 = .ok (.goto 4, 3) := by decide +kernel
theorem dX14_unlike_227 : decode cX14_unlike 227 = .ok (.iconst 1, 1) := by decide +kernel
theorem dX14_unlike_228 : decode cX14_unlike 228 = .ok (.iadd, 1) := by decide +kernel
theorem dX14_unlike_229 : decode cX14_unlike 229 = .ok (.istore 8, 2) := by decide +kernel
theorem dX14_unlike_231 : decode cX14_unlike 231 = .ok (.iinc 9 1, 3) := by decide +kernel
theorem dX14_unlike_234 : decode cX14_unlike 234 = .ok (.goto (-136), 3) := by decide +kernel
theorem dX14_unlike_237 : decode cX14_unlike 237 = .ok (.aload_n 0, 1) := by decide +kernel
theorem dX14_unlike_238 : decode cX14_unlike 238 = .ok (.iload 8, 2) := by decide +kernel
theorem dX14_unlike_240 : decode cX14_unlike 240 = .ok (.invokevirtual 333, 3) := by decide +kernel
theorem dX14_unlike_243 : decode cX14_unlike 243 = .ok (.ireturn, 1) := by decide +kernel
theorem dX14_costs_0 : decode cX14_costs 0 = .ok (.aload_n 0, 1) := by decide +kernel
theorem dX14_costs_1 : decode cX14_costs 1 = .ok (.getfield 16, 3) := by decide +kernel
theorem dX14_costs_4 : decode cX14_costs 4 = .ok (.getfield 301, 3) := by decide +kernel
theorem dX14_costs_7 : decode cX14_costs 7 = .ok (.iload_n 1, 1) := by decide +kernel
theorem dX14_costs_8 : decode cX14_costs 8 = .ok (.iaload, 1) := by decide +kernel
theorem dX14_costs_9 : decode cX14_costs 9 = .ok (.iload_n 2, 1) := by decide +kernel
theorem dX14_costs_10 : decode cX14_costs 10 = .ok (.iconst (-1), 1) := by decide +kernel
theorem dX14_costs_11 : decode cX14_costs 11 = .ok (.ixor, 1) := by decide +kernel
theorem dX14_costs_12 : decode cX14_costs 12 = .ok (.iand, 1) := by decide +kernel
theorem dX14_costs_13 : decode cX14_costs 13 = .ok (.iconst 1, 1) := by decide +kernel
theorem dX14_costs_14 : decode cX14_costs 14 = .ok (.iload_n 1, 1) := by decide +kernel
theorem dX14_costs_15 : decode cX14_costs 15 = .ok (.ishl, 1) := by decide +kernel
theorem dX14_costs_16 : decode cX14_costs 16 = .ok (.iconst (-1), 1) := by decide +kernel
theorem dX14_costs_17 : decode cX14_costs 17 = .ok (.ixor, 1) := by decide +kernel
theorem dX14_costs_18 : decode cX14_costs 18 = .ok (.iand, 1) := by decide +kernel
theorem dX14_costs_19 : decode cX14_costs 19 = .ok (.invokestatic 419, 3) := by decide +kernel
theorem dX14_costs_22 : decode cX14_costs 22 = .ok (.ireturn, 1) := by decide +kernel
theorem dX14_orders_0 : decode cX14_orders 0 = .ok (.iconst 1, 1) := by decide +kernel
theorem dX14_orders_1 : decode cX14_orders 1 = .ok (.aload_n 0, 1) := by decide +kernel
theorem dX14_orders_2 : decode cX14_orders 2 = .ok (.getfield 16, 3) := by decide +kernel
theorem dX14_orders_5 : decode cX14_orders 5 = .ok (.getfield 168, 3) := by decide +kernel
theorem dX14_orders_8 : decode cX14_orders 8 = .ok (.ishl, 1) := by decide +kernel
theorem dX14_orders_9 : decode cX14_orders 9 = .ok (.iconst 1, 1) := by decide +kernel
theorem dX14_orders_10 : decode cX14_orders 10 = .ok (.isub, 1) := by decide +kernel
theorem dX14_orders_11 : decode cX14_orders 11 = .ok (.istore_n 1, 1) := by decide +kernel
theorem dX14_orders_12 : decode cX14_orders 12 = .ok (.aload_n 0, 1) := by decide +kernel
theorem dX14_orders_13 : decode cX14_orders 13 = .ok (.getfield 54, 3) := by decide +kernel
theorem dX14_orders_16 : decode cX14_orders 16 = .ok (.iload_n 1, 1) := by decide +kernel
theorem dX14_orders_17 : decode cX14_orders 17 = .ok (.iconst 0, 1) := by decide +kernel
theorem dX14_orders_18 : decode cX14_orders 18 = .ok (.iastore, 1) := by decide +kernel
theorem dX14_orders_19 : decode cX14_orders 19 = .ok (.iload_n 1, 1) := by decide +kernel
theorem dX14_orders_20 : decode cX14_orders 20 = .ok (.iconst 1, 1) := by decide +kernel
theorem dX14_orders_21 : decode cX14_orders 21 = .ok (.isub, 1) := by decide +kernel
theorem dX14_orders_22 : decode cX14_orders 22 = .ok (.istore_n 2, 1) := by decide +kernel
theorem dX14_orders_23 : decode cX14_orders 23 = .ok (.iload_n 2, 1) := by decide +kernel
theorem dX14_orders_24 : decode cX14_orders 24 = .ok (.ifCond .lt 90, 3) := by decide +kernel
theorem dX14_orders_27 : decode cX14_orders 27 = .ok (.iconst (-1), 1) := by decide +kernel
theorem dX14_orders_28 : decode cX14_orders 28 = .ok (.istore_n 3, 1) := by decide +kernel
theorem dX14_orders_29 : decode cX14_orders 29 = .ok (.iconst 0, 1) := by decide +kernel
theorem dX14_orders_30 : decode cX14_orders 30 = .ok (.istore 4, 2) := by decide +kernel
theorem dX14_orders_32 : decode cX14_orders 32 = .ok (.iload 4, 2) := by decide +kernel
theorem dX14_orders_34 : decode cX14_orders 34 = .ok (.aload_n 0, 1) := by decide +kernel
theorem dX14_orders_35 : decode cX14_orders 35 = .ok (.getfield 16, 3) := by decide +kernel
theorem dX14_orders_38 : decode cX14_orders 38 = .ok (.getfield 168, 3) := by decide +kernel
theorem dX14_orders_41 : decode cX14_orders 41 = .ok (.if_icmp .ge 60, 3) := by decide +kernel
theorem dX14_orders_44 : decode cX14_orders 44 = .ok (.iload_n 2, 1) := by decide +kernel
theorem dX14_orders_45 : decode cX14_orders 45 = .ok (.iload 4, 2) := by decide +kernel
theorem dX14_orders_47 : decode cX14_orders 47 = .ok (.ishr, 1) := by decide +kernel
theorem dX14_orders_48 : decode cX14_orders 48 = .ok (.iconst 1, 1) := by decide +kernel
theorem dX14_orders_49 : decode cX14_orders 49 = .ok (.iand, 1) := by decide +kernel
theorem dX14_orders_50 : decode cX14_orders 50 = .ok (.iconst 1, 1) := by decide +kernel
theorem dX14_orders_51 : decode cX14_orders 51 = .ok (.if_icmp .ne 6, 3) := by decide +kernel
theorem dX14_orders_54 : decode cX14_orders 54 = .ok (.goto 41, 3) := by decide +kernel
theorem dX14_orders_57 : decode cX14_orders 57 = .ok (.aload_n 0, 1) := by decide +kernel
theorem dX14_orders_58 : decode cX14_orders 58 = .ok (.iload 4, 2) := by decide +kernel
theorem dX14_orders_60 : decode cX14_orders 60 = .ok (.iload_n 2, 1) := by decide +kernel
theorem dX14_orders_61 : decode cX14_orders 61 = .ok (.invokevirtual 422, 3) := by decide +kernel
theorem dX14_orders_64 : decode cX14_orders 64 = .ok (.aload_n 0, 1) := by decide +kernel
theorem dX14_orders_65 : decode cX14_orders 65 = .ok (.getfield 54, 3) := by decide +kernel
theorem dX14_orders_68 : decode cX14_orders 68 = .ok (.iload_n 2, 1) := by decide +kernel
theorem dX14_orders_69 : decode cX14_orders 69 = .ok (.iconst 1, 1) := by decide +kernel
theorem dX14_orders_70 : decode cX14_orders 70 = .ok (.iload 4, 2) := by decide +kernel
theorem dX14_orders_72 : decode cX14_orders 72 = .ok (.ishl, 1) := by decide +kernel
theorem dX14_orders_73 : decode cX14_orders 73 = .ok (.ior, 1) := by decide +kernel
theorem dX14_orders_74 : decode cX14_orders 74 = .ok (.iaload, 1) := by decide +kernel
theorem dX14_orders_75 : decode cX14_orders 75 = .ok (.iadd, 1) := by decide +kernel
theorem dX14_orders_76 : decode cX14_orders 76 = .ok (.istore 5, 2) := by decide +kernel
theorem dX14_orders_78 : decode cX14_orders 78 = .ok (.iload_n 3, 1) := by decide +kernel
theorem dX14_orders_79 : decode cX14_orders 79 = .ok (.iconst (-1), 1) := by decide +kernel
theorem dX14_orders_80 : decode cX14_orders 80 = .ok (.if_icmp .ne 8, 3) := by decide +kernel
theorem dX14_orders_83 : decode cX14_orders 83 = .ok (.iload 5, 2) := by decide +kernel
theorem dX14_orders_85 : decode cX14_orders 85 = .ok (.goto 9, 3) := by decide +kernel
theorem dX14_orders_88 : decode cX14_orders 88 = .ok (.iload_n 3, 1) := by decide +kernel
theorem dX14_orders_89 : decode cX14_orders 89 = .ok (.iload 5, 2) := by decide +kernel
theorem dX14_orders_91 : decode cX14_orders 91 = .ok (.invokestatic 416, 3) := by decide +kernel
theorem dX14_orders_94 : decode cX14_orders 94 = .ok (.istore_n 3, 1) := by decide +kernel
theorem dX14_orders_95 : decode cX14_orders 95 = .ok (.iinc 4 1, 3) := by decide +kernel
theorem dX14_orders_98 : decode cX14_orders 98 = .ok (.goto (-66), 3) := by decide +kernel
theorem dX14_orders_101 : decode cX14_orders 101 = .ok (.aload_n 0, 1) := by decide +kernel
theorem dX14_orders_102 : decode cX14_orders 102 = .ok (.getfield 54, 3) := by decide +kernel
theorem dX14_orders_105 : decode cX14_orders 105 = .ok (.iload_n 2, 1) := by decide +kernel
theorem dX14_orders_106 : decode cX14_orders 106 = .ok (.iload_n 3, 1) := by decide +kernel
theorem dX14_orders_107 : decode cX14_orders 107 = .ok (.iastore, 1) := by decide +kernel
theorem dX14_orders_108 : decode cX14_orders 108 = .ok (.iinc 2 (-1), 3) := by decide +kernel
theorem dX14_orders_111 : decode cX14_orders 111 = .ok (.goto (-88), 3) := by decide +kernel
theorem dX14_orders_114 : decode cX14_orders 114 = .ok (.return_, 1) := by decide +kernel
theorem dX14_order_0 : decode cX14_order 0 = .ok (.aload_n 0, 1) := by decide +kernel
theorem dX14_order_1 : decode cX14_order 1 = .ok (.iconst 0, 1) := by decide +kernel
theorem dX14_order_2 : decode cX14_order 2 = .ok (.putfield 76, 3) := by decide +kernel
theorem dX14_order_5 : decode cX14_order 5 = .ok (.aload_n 0, 1) := by decide +kernel
theorem dX14_order_6 : decode cX14_order 6 = .ok (.getfield 318, 3) := by decide +kernel
theorem dX14_order_9 : decode cX14_order 9 = .ok (.ifCond .ne 6, 3) := by decide +kernel
theorem dX14_order_12 : decode cX14_order 12 = .ok (.bipush (-2), 2) := by decide +kernel
theorem dX14_order_14 : decode cX14_order 14 = .ok (.ireturn, 1) := by decide +kernel
theorem dX14_order_15 : decode cX14_order 15 = .ok (.aload_n 0, 1) := by decide +kernel
theorem dX14_order_16 : decode cX14_order 16 = .ok (.invokevirtual 425, 3) := by decide +kernel
theorem dX14_order_19 : decode cX14_order 19 = .ok (.aload_n 0, 1) := by decide +kernel
theorem dX14_order_20 : decode cX14_order 20 = .ok (.getfield 54, 3) := by decide +kernel
theorem dX14_order_23 : decode cX14_order 23 = .ok (.iconst 0, 1) := by decide +kernel
theorem dX14_order_24 : decode cX14_order 24 = .ok (.iaload, 1) := by decide +kernel
theorem dX14_order_25 : decode cX14_order 25 = .ok (.ireturn, 1) := by decide +kernel
theorem dX14_chapter_0 : decode cX14_chapter 0 = .ok (.aload_n 0, 1) := by decide +kernel
theorem dX14_chapter_1 : decode cX14_chapter 1 = .ok (.iconst 0, 1) := by decide +kernel
theorem dX14_chapter_2 : decode cX14_chapter 2 = .ok (.putfield 76, 3) := by decide +kernel
theorem dX14_chapter_5 : decode cX14_chapter 5 = .ok (.aload_n 0, 1) := by decide +kernel
theorem dX14_chapter_6 : decode cX14_chapter 6 = .ok (.getfield 318, 3) := by decide +kernel
theorem dX14_chapter_9 : decode cX14_chapter 9 = .ok (.ifCond .eq 18, 3) := by decide +kernel
theorem dX14_chapter_12 : decode cX14_chapter 12 = .ok (.iload_n 1, 1) := by decide +kernel
theorem dX14_chapter_13 : decode cX14_chapter 13 = .ok (.ifCond .lt 14, 3) := by decide +kernel
theorem dX14_chapter_16 : decode cX14_chapter 16 = .ok (.iload_n 1, 1) := by decide +kernel
theorem dX14_chapter_17 : decode cX14_chapter 17 = .ok (.aload_n 0, 1) := by decide +kernel
theorem dX14_chapter_18 : decode cX14_chapter 18 = .ok (.getfield 16, 3) := by decide +kernel
theorem dX14_chapter_21 : decode cX14_chapter 21 = .ok (.getfield 168, 3) := by decide +kernel
theorem dX14_chapter_24 : decode cX14_chapter 24 = .ok (.if_icmp .lt 5, 3) := by decide +kernel
theorem dX14_chapter_27 : decode cX14_chapter 27 = .ok (.iconst (-1), 1) := by decide +kernel
theorem dX14_chapter_28 : decode cX14_chapter 28 = .ok (.ireturn, 1) := by decide +kernel
theorem dX14_chapter_29 : decode cX14_chapter 29 = .ok (.aload_n 0, 1) := by decide +kernel
theorem dX14_chapter_30 : decode cX14_chapter 30 = .ok (.invokevirtual 425, 3) := by decide +kernel
theorem dX14_chapter_33 : decode cX14_chapter 33 = .ok (.iconst 0, 1) := by decide +kernel
theorem dX14_chapter_34 : decode cX14_chapter 34 = .ok (.istore_n 2, 1) := by decide +kernel
theorem dX14_chapter_35 : decode cX14_chapter 35 = .ok (.iconst (-1), 1) := by decide +kernel
theorem dX14_chapter_36 : decode cX14_chapter 36 = .ok (.istore_n 3, 1) := by decide +kernel
theorem dX14_chapter_37 : decode cX14_chapter 37 = .ok (.iconst 0, 1) := by decide +kernel
theorem dX14_chapter_38 : decode cX14_chapter 38 = .ok (.istore 4, 2) := by decide +kernel
theorem dX14_chapter_40 : decode cX14_chapter 40 = .ok (.iload 4, 2) := by decide +kernel
theorem dX14_chapter_42 : decode cX14_chapter 42 = .ok (.iload_n 1, 1) := by decide +kernel
theorem dX14_chapter_43 : decode cX14_chapter 43 = .ok (.if_icmp .gt 58, 3) := by decide +kernel
theorem dX14_chapter_46 : decode cX14_chapter 46 = .ok (.iconst 0, 1) := by decide +kernel
theorem dX14_chapter_47 : decode cX14_chapter 47 = .ok (.istore_n 3, 1) := by decide +kernel
theorem dX14_chapter_48 : decode cX14_chapter 48 = .ok (.iload_n 2, 1) := by decide +kernel
theorem dX14_chapter_49 : decode cX14_chapter 49 = .ok (.iload_n 3, 1) := by decide +kernel
theorem dX14_chapter_50 : decode cX14_chapter 50 = .ok (.ishr, 1) := by decide +kernel
theorem dX14_chapter_51 : decode cX14_chapter 51 = .ok (.iconst 1, 1) := by decide +kernel
theorem dX14_chapter_52 : decode cX14_chapter 52 = .ok (.iand, 1) := by decide +kernel
theorem dX14_chapter_53 : decode cX14_chapter 53 = .ok (.iconst 1, 1) := by decide +kernel
theorem dX14_chapter_54 : decode cX14_chapter 54 = .ok (.if_icmp .eq 29, 3) := by decide +kernel
theorem dX14_chapter_57 : decode cX14_chapter 57 = .ok (.aload_n 0, 1) := by decide +kernel
theorem dX14_chapter_58 : decode cX14_chapter 58 = .ok (.iload_n 3, 1) := by decide +kernel
theorem dX14_chapter_59 : decode cX14_chapter 59 = .ok (.iload_n 2, 1) := by decide +kernel
theorem dX14_chapter_60 : decode cX14_chapter 60 = .ok (.invokevirtual 422, 3) := by decide +kernel
theorem dX14_chapter_63 : decode cX14_chapter 63 = .ok (.aload_n 0, 1) := by decide +kernel
theorem dX14_chapter_64 : decode cX14_chapter 64 = .ok (.getfield 54, 3) := by decide +kernel
theorem dX14_chapter_67 : decode cX14_chapter 67 = .ok (.iload_n 2, 1) := by decide +kernel
theorem dX14_chapter_68 : decode cX14_chapter 68 = .ok (.iconst 1, 1) := by decide +kernel
theorem dX14_chapter_69 : decode cX14_chapter 69 = .ok (.iload_n 3, 1) := by decide +kernel
theorem dX14_chapter_70 : decode cX14_chapter 70 = .ok (.ishl, 1) := by decide +kernel
theorem dX14_chapter_71 : decode cX14_chapter 71 = .ok (.ior, 1) := by decide +kernel
theorem dX14_chapter_72 : decode cX14_chapter 72 = .ok (.iaload, 1) := by decide +kernel
theorem dX14_chapter_73 : decode cX14_chapter 73 = .ok (.iadd, 1) := by decide +kernel
theorem dX14_chapter_74 : decode cX14_chapter 74 = .ok (.aload_n 0, 1) := by decide +kernel
theorem dX14_chapter_75 : decode cX14_chapter 75 = .ok (.getfield 54, 3) := by decide +kernel
theorem dX14_chapter_78 : decode cX14_chapter 78 = .ok (.iload_n 2, 1) := by decide +kernel
theorem dX14_chapter_79 : decode cX14_chapter 79 = .ok (.iaload, 1) := by decide +kernel
theorem dX14_chapter_80 : decode cX14_chapter 80 = .ok (.if_icmp .eq 9, 3) := by decide +kernel
theorem dX14_chapter_83 : decode cX14_chapter 83 = .ok (.iinc 3 1, 3) := by decide +kernel
theorem dX14_chapter_86 : decode cX14_chapter 86 = .ok (.goto (-38), 3) := by decide +kernel
theorem dX14_chapter_89 : decode cX14_chapter 89 = .ok (.iload_n 2, 1) := by decide +kernel
theorem dX14_chapter_90 : decode cX14_chapter 90 = .ok (.iconst 1, 1) := by decide +kernel
theorem dX14_chapter_91 : decode cX14_chapter 91 = .ok (.iload_n 3, 1) := by decide +kernel
theorem dX14_chapter_92 : decode cX14_chapter 92 = .ok (.ishl, 1) := by decide +kernel
theorem dX14_chapter_93 : decode cX14_chapter 93 = .ok (.ior, 1) := by decide +kernel
theorem dX14_chapter_94 : decode cX14_chapter 94 = .ok (.istore_n 2, 1) := by decide +kernel
theorem dX14_chapter_95 : decode cX14_chapter 95 = .ok (.iinc 4 1, 3) := by decide +kernel
theorem dX14_chapter_98 : decode cX14_chapter 98 = .ok (.goto (-58), 3) := by decide +kernel
theorem dX14_chapter_101 : decode cX14_chapter 101 = .ok (.iload_n 3, 1) := by decide +kernel
theorem dX14_chapter_102 : decode cX14_chapter 102 = .ok (.ireturn, 1) := by decide +kernel
theorem dX14_tell_0 : decode cX14_tell 0 = .ok (.aload_n 0, 1) := by decide +kernel
theorem dX14_tell_1 : decode cX14_tell 1 = .ok (.iconst 0, 1) := by decide +kernel
theorem dX14_tell_2 : decode cX14_tell 2 = .ok (.putfield 76, 3) := by decide +kernel
theorem dX14_tell_5 : decode cX14_tell 5 = .ok (.aload_n 0, 1) := by decide +kernel
theorem dX14_tell_6 : decode cX14_tell 6 = .ok (.iload_n 1, 1) := by decide +kernel
theorem dX14_tell_7 : decode cX14_tell 7 = .ok (.invokevirtual 336, 3) := by decide +kernel
theorem dX14_tell_10 : decode cX14_tell 10 = .ok (.ifCond .ne 9, 3) := by decide +kernel
theorem dX14_tell_13 : decode cX14_tell 13 = .ok (.aload_n 0, 1) := by decide +kernel
theorem dX14_tell_14 : decode cX14_tell 14 = .ok (.iconst 1, 1) := by decide +kernel
theorem dX14_tell_15 : decode cX14_tell 15 = .ok (.invokevirtual 307, 3) := by decide +kernel
theorem dX14_tell_18 : decode cX14_tell 18 = .ok (.ireturn, 1) := by decide +kernel
theorem dX14_tell_19 : decode cX14_tell 19 = .ok (.aload_n 0, 1) := by decide +kernel
theorem dX14_tell_20 : decode cX14_tell 20 = .ok (.getfield 324, 3) := by decide +kernel
theorem dX14_tell_23 : decode cX14_tell 23 = .ok (.bipush 12, 2) := by decide +kernel
theorem dX14_tell_25 : decode cX14_tell 25 = .ok (.if_icmp .ne 9, 3) := by decide +kernel
theorem dX14_tell_28 : decode cX14_tell 28 = .ok (.aload_n 0, 1) := by decide +kernel
theorem dX14_tell_29 : decode cX14_tell 29 = .ok (.iconst 3, 1) := by decide +kernel
theorem dX14_tell_30 : decode cX14_tell 30 = .ok (.invokevirtual 307, 3) := by decide +kernel
theorem dX14_tell_33 : decode cX14_tell 33 = .ok (.ireturn, 1) := by decide +kernel
theorem dX14_tell_34 : decode cX14_tell 34 = .ok (.aload_n 0, 1) := by decide +kernel
theorem dX14_tell_35 : decode cX14_tell 35 = .ok (.getfield 57, 3) := by decide +kernel
theorem dX14_tell_38 : decode cX14_tell 38 = .ok (.aload_n 0, 1) := by decide +kernel
theorem dX14_tell_39 : decode cX14_tell 39 = .ok (.getfield 324, 3) := by decide +kernel
theorem dX14_tell_42 : decode cX14_tell 42 = .ok (.iload_n 1, 1) := by decide +kernel
theorem dX14_tell_43 : decode cX14_tell 43 = .ok (.iastore, 1) := by decide +kernel
theorem dX14_tell_44 : decode cX14_tell 44 = .ok (.aload_n 0, 1) := by decide +kernel
theorem dX14_tell_45 : decode cX14_tell 45 = .ok (.getfield 60, 3) := by decide +kernel
theorem dX14_tell_48 : decode cX14_tell 48 = .ok (.aload_n 0, 1) := by decide +kernel
theorem dX14_tell_49 : decode cX14_tell 49 = .ok (.getfield 324, 3) := by decide +kernel
theorem dX14_tell_52 : decode cX14_tell 52 = .ok (.iload_n 2, 1) := by decide +kernel
theorem dX14_tell_53 : decode cX14_tell 53 = .ok (.iastore, 1) := by decide +kernel
theorem dX14_tell_54 : decode cX14_tell 54 = .ok (.aload_n 0, 1) := by decide +kernel
theorem dX14_tell_55 : decode cX14_tell 55 = .ok (.getfield 63, 3) := by decide +kernel
theorem dX14_tell_58 : decode cX14_tell 58 = .ok (.aload_n 0, 1) := by decide +kernel
theorem dX14_tell_59 : decode cX14_tell 59 = .ok (.getfield 324, 3) := by decide +kernel
theorem dX14_tell_62 : decode cX14_tell 62 = .ok (.iload_n 3, 1) := by decide +kernel
theorem dX14_tell_63 : decode cX14_tell 63 = .ok (.iastore, 1) := by decide +kernel
theorem dX14_tell_64 : decode cX14_tell 64 = .ok (.aload_n 0, 1) := by decide +kernel
theorem dX14_tell_65 : decode cX14_tell 65 = .ok (.getfield 66, 3) := by decide +kernel
theorem dX14_tell_68 : decode cX14_tell 68 = .ok (.aload_n 0, 1) := by decide +kernel
theorem dX14_tell_69 : decode cX14_tell 69 = .ok (.getfield 324, 3) := by decide +kernel
theorem dX14_tell_72 : decode cX14_tell 72 = .ok (.iload 4, 2) := by decide +kernel
theorem dX14_tell_74 : decode cX14_tell 74 = .ok (.iastore, 1) := by decide +kernel
theorem dX14_tell_75 : decode cX14_tell 75 = .ok (.aload_n 0, 1) := by decide +kernel
theorem dX14_tell_76 : decode cX14_tell 76 = .ok (.dup, 1) := by decide +kernel
theorem dX14_tell_77 : decode cX14_tell 77 = .ok (.getfield 324, 3) := by decide +kernel
theorem dX14_tell_80 : decode cX14_tell 80 = .ok (.iconst 1, 1) := by decide +kernel
theorem dX14_tell_81 : decode cX14_tell 81 = .ok (.iadd, 1) := by decide +kernel
theorem dX14_tell_82 : decode cX14_tell 82 = .ok (.putfield 324, 3) := by decide +kernel
theorem dX14_tell_85 : decode cX14_tell 85 = .ok (.aload_n 0, 1) := by decide +kernel
theorem dX14_tell_86 : decode cX14_tell 86 = .ok (.aload_n 0, 1) := by decide +kernel
theorem dX14_tell_87 : decode cX14_tell 87 = .ok (.getfield 324, 3) := by decide +kernel
theorem dX14_tell_90 : decode cX14_tell 90 = .ok (.iconst 1, 1) := by decide +kernel
theorem dX14_tell_91 : decode cX14_tell 91 = .ok (.isub, 1) := by decide +kernel
theorem dX14_tell_92 : decode cX14_tell 92 = .ok (.invokevirtual 333, 3) := by decide +kernel
theorem dX14_tell_95 : decode cX14_tell 95 = .ok (.ireturn, 1) := by decide +kernel
theorem dX14_shownBy_0 : decode cX14_shownBy 0 = .ok (.lconst 0, 1) := by decide +kernel
theorem dX14_shownBy_1 : decode cX14_shownBy 1 = .ok (.lstore_n 1, 1) := by decide +kernel
theorem dX14_shownBy_2 : decode cX14_shownBy 2 = .ok (.iconst 0, 1) := by decide +kernel
theorem dX14_shownBy_3 : decode cX14_shownBy 3 = .ok (.istore_n 3, 1) := by decide +kernel
theorem dX14_shownBy_4 : decode cX14_shownBy 4 = .ok (.iload_n 3, 1) := by decide +kernel
theorem dX14_shownBy_5 : decode cX14_shownBy 5 = .ok (.aload_n 0, 1) := by decide +kernel
theorem dX14_shownBy_6 : decode cX14_shownBy 6 = .ok (.getfield 324, 3) := by decide +kernel
theorem dX14_shownBy_9 : decode cX14_shownBy 9 = .ok (.if_icmp .ge 63, 3) := by decide +kernel
theorem dX14_shownBy_12 : decode cX14_shownBy 12 = .ok (.aload_n 0, 1) := by decide +kernel
theorem dX14_shownBy_13 : decode cX14_shownBy 13 = .ok (.aload_n 0, 1) := by decide +kernel
theorem dX14_shownBy_14 : decode cX14_shownBy 14 = .ok (.getfield 57, 3) := by decide +kernel
theorem dX14_shownBy_17 : decode cX14_shownBy 17 = .ok (.iload_n 3, 1) := by decide +kernel
theorem dX14_shownBy_18 : decode cX14_shownBy 18 = .ok (.iaload, 1) := by decide +kernel
theorem dX14_shownBy_19 : decode cX14_shownBy 19 = .ok (.aload_n 0, 1) := by decide +kernel
theorem dX14_shownBy_20 : decode cX14_shownBy 20 = .ok (.getfield 60, 3) := by decide +kernel
theorem dX14_shownBy_23 : decode cX14_shownBy 23 = .ok (.iload_n 3, 1) := by decide +kernel
theorem dX14_shownBy_24 : decode cX14_shownBy 24 = .ok (.iaload, 1) := by decide +kernel
theorem dX14_shownBy_25 : decode cX14_shownBy 25 = .ok (.aload_n 0, 1) := by decide +kernel
theorem dX14_shownBy_26 : decode cX14_shownBy 26 = .ok (.getfield 63, 3) := by decide +kernel
theorem dX14_shownBy_29 : decode cX14_shownBy 29 = .ok (.iload_n 3, 1) := by decide +kernel
theorem dX14_shownBy_30 : decode cX14_shownBy 30 = .ok (.iaload, 1) := by decide +kernel
theorem dX14_shownBy_31 : decode cX14_shownBy 31 = .ok (.aload_n 0, 1) := by decide +kernel
theorem dX14_shownBy_32 : decode cX14_shownBy 32 = .ok (.getfield 66, 3) := by decide +kernel
theorem dX14_shownBy_35 : decode cX14_shownBy 35 = .ok (.iload_n 3, 1) := by decide +kernel
theorem dX14_shownBy_36 : decode cX14_shownBy 36 = .ok (.iaload, 1) := by decide +kernel
theorem dX14_shownBy_37 : decode cX14_shownBy 37 = .ok (.sipush 2000, 3) := by decide +kernel
theorem dX14_shownBy_40 : decode cX14_shownBy 40 = .ok (.iconst (-1), 1) := by decide +kernel
theorem dX14_shownBy_41 : decode cX14_shownBy 41 = .ok (.invokevirtual 411, 3) := by decide +kernel
theorem dX14_shownBy_44 : decode cX14_shownBy 44 = .ok (.aload_n 0, 1) := by decide +kernel
theorem dX14_shownBy_45 : decode cX14_shownBy 45 = .ok (.getfield 72, 3) := by decide +kernel
theorem dX14_shownBy_48 : decode cX14_shownBy 48 = .ok (.iload_n 3, 1) := by decide +kernel
theorem dX14_shownBy_49 : decode cX14_shownBy 49 = .ok (.aload_n 0, 1) := by decide +kernel
theorem dX14_shownBy_50 : decode cX14_shownBy 50 = .ok (.getfield 44, 3) := by decide +kernel
theorem dX14_shownBy_53 : decode cX14_shownBy 53 = .ok (.getfield 366, 3) := by decide +kernel
theorem dX14_shownBy_56 : decode cX14_shownBy 56 = .ok (.lastore, 1) := by decide +kernel
theorem dX14_shownBy_57 : decode cX14_shownBy 57 = .ok (.lload_n 1, 1) := by decide +kernel
theorem dX14_shownBy_58 : decode cX14_shownBy 58 = .ok (.aload_n 0, 1) := by decide +kernel
theorem dX14_shownBy_59 : decode cX14_shownBy 59 = .ok (.getfield 72, 3) := by decide +kernel
theorem dX14_shownBy_62 : decode cX14_shownBy 62 = .ok (.iload_n 3, 1) := by decide +kernel
theorem dX14_shownBy_63 : decode cX14_shownBy 63 = .ok (.laload, 1) := by decide +kernel
theorem dX14_shownBy_64 : decode cX14_shownBy 64 = .ok (.lor, 1) := by decide +kernel
theorem dX14_shownBy_65 : decode cX14_shownBy 65 = .ok (.lstore_n 1, 1) := by decide +kernel
theorem dX14_shownBy_66 : decode cX14_shownBy 66 = .ok (.iinc 3 1, 3) := by decide +kernel
theorem dX14_shownBy_69 : decode cX14_shownBy 69 = .ok (.goto (-65), 3) := by decide +kernel
theorem dX14_shownBy_72 : decode cX14_shownBy 72 = .ok (.lload_n 1, 1) := by decide +kernel
theorem dX14_shownBy_73 : decode cX14_shownBy 73 = .ok (.lreturn, 1) := by decide +kernel
theorem dX14_shown_0 : decode cX14_shown 0 = .ok (.aload_n 0, 1) := by decide +kernel
theorem dX14_shown_1 : decode cX14_shown 1 = .ok (.iconst 0, 1) := by decide +kernel
theorem dX14_shown_2 : decode cX14_shown 2 = .ok (.putfield 76, 3) := by decide +kernel
theorem dX14_shown_5 : decode cX14_shown 5 = .ok (.aload_n 0, 1) := by decide +kernel
theorem dX14_shown_6 : decode cX14_shown 6 = .ok (.invokevirtual 428, 3) := by decide +kernel
theorem dX14_shown_9 : decode cX14_shown 9 = .ok (.invokestatic 414, 3) := by decide +kernel
theorem dX14_shown_12 : decode cX14_shown 12 = .ok (.ireturn, 1) := by decide +kernel
theorem dX14_fewest_0 : decode cX14_fewest 0 = .ok (.aload_n 0, 1) := by decide +kernel
theorem dX14_fewest_1 : decode cX14_fewest 1 = .ok (.iconst 0, 1) := by decide +kernel
theorem dX14_fewest_2 : decode cX14_fewest 2 = .ok (.putfield 76, 3) := by decide +kernel
theorem dX14_fewest_5 : decode cX14_fewest 5 = .ok (.aload_n 0, 1) := by decide +kernel
theorem dX14_fewest_6 : decode cX14_fewest 6 = .ok (.invokevirtual 428, 3) := by decide +kernel
theorem dX14_fewest_9 : decode cX14_fewest 9 = .ok (.lstore_n 1, 1) := by decide +kernel
theorem dX14_fewest_10 : decode cX14_fewest 10 = .ok (.iconst (-1), 1) := by decide +kernel
theorem dX14_fewest_11 : decode cX14_fewest 11 = .ok (.istore_n 3, 1) := by decide +kernel
theorem dX14_fewest_12 : decode cX14_fewest 12 = .ok (.iconst 0, 1) := by decide +kernel
theorem dX14_fewest_13 : decode cX14_fewest 13 = .ok (.istore 4, 2) := by decide +kernel
theorem dX14_fewest_15 : decode cX14_fewest 15 = .ok (.iload 4, 2) := by decide +kernel
theorem dX14_fewest_17 : decode cX14_fewest 17 = .ok (.iconst 1, 1) := by decide +kernel
theorem dX14_fewest_18 : decode cX14_fewest 18 = .ok (.aload_n 0, 1) := by decide +kernel
theorem dX14_fewest_19 : decode cX14_fewest 19 = .ok (.getfield 324, 3) := by decide +kernel
theorem dX14_fewest_22 : decode cX14_fewest 22 = .ok (.ishl, 1) := by decide +kernel
theorem dX14_fewest_23 : decode cX14_fewest 23 = .ok (.if_icmp .ge 125, 3) := by decide +kernel
theorem dX14_fewest_26 : decode cX14_fewest 26 = .ok (.iload_n 3, 1) := by decide +kernel
theorem dX14_fewest_27 : decode cX14_fewest 27 = .ok (.iconst (-1), 1) := by decide +kernel
theorem dX14_fewest_28 : decode cX14_fewest 28 = .ok (.if_icmp .eq 18, 3) := by decide +kernel
theorem dX14_fewest_31 : decode cX14_fewest 31 = .ok (.iload 4, 2) := by decide +kernel
theorem dX14_fewest_33 : decode cX14_fewest 33 = .ok (.invokestatic 419, 3) := by decide +kernel
theorem dX14_fewest_36 : decode cX14_fewest 36 = .ok (.iload_n 3, 1) := by decide +kernel
theorem dX14_fewest_37 : decode cX14_fewest 37 = .ok (.invokestatic 419, 3) := by decide +kernel
theorem dX14_fewest_40 : decode cX14_fewest 40 = .ok (.if_icmp .le 6, 3) := by decide +kernel
theorem dX14_fewest_43 : decode cX14_fewest 43 = .ok (.goto 99, 3) := by decide +kernel
theorem dX14_fewest_46 : decode cX14_fewest 46 = .ok (.lconst 0, 1) := by decide +kernel
theorem dX14_fewest_47 : decode cX14_fewest 47 = .ok (.lstore 5, 2) := by decide +kernel
theorem dX14_fewest_49 : decode cX14_fewest 49 = .ok (.iconst 0, 1) := by decide +kernel
theorem dX14_fewest_50 : decode cX14_fewest 50 = .ok (.istore 7, 2) := by decide +kernel
theorem dX14_fewest_52 : decode cX14_fewest 52 = .ok (.iload 7, 2) := by decide +kernel
theorem dX14_fewest_54 : decode cX14_fewest 54 = .ok (.aload_n 0, 1) := by decide +kernel
theorem dX14_fewest_55 : decode cX14_fewest 55 = .ok (.getfield 324, 3) := by decide +kernel
theorem dX14_fewest_58 : decode cX14_fewest 58 = .ok (.if_icmp .ge 36, 3) := by decide +kernel
theorem dX14_fewest_61 : decode cX14_fewest 61 = .ok (.lload 5, 2) := by decide +kernel
theorem dX14_fewest_63 : decode cX14_fewest 63 = .ok (.iload 4, 2) := by decide +kernel
theorem dX14_fewest_65 : decode cX14_fewest 65 = .ok (.iload 7, 2) := by decide +kernel
theorem dX14_fewest_67 : decode cX14_fewest 67 = .ok (.ishr, 1) := by decide +kernel
theorem dX14_fewest_68 : decode cX14_fewest 68 = .ok (.iconst 1, 1) := by decide +kernel
theorem dX14_fewest_69 : decode cX14_fewest 69 = .ok (.iand, 1) := by decide +kernel
theorem dX14_fewest_70 : decode cX14_fewest 70 = .ok (.iconst 1, 1) := by decide +kernel
theorem dX14_fewest_71 : decode cX14_fewest 71 = .ok (.if_icmp .ne 13, 3) := by decide +kernel
theorem dX14_fewest_74 : decode cX14_fewest 74 = .ok (.aload_n 0, 1) := by decide +kernel
theorem dX14_fewest_75 : decode cX14_fewest 75 = .ok (.getfield 72, 3) := by decide +kernel
theorem dX14_fewest_78 : decode cX14_fewest 78 = .ok (.iload 7, 2) := by decide +kernel
theorem dX14_fewest_80 : decode cX14_fewest 80 = .ok (.laload, 1) := by decide +kernel
theorem dX14_fewest_81 : decode cX14_fewest 81 = .ok (.goto 4, 3) := by decide +kernel
theorem dX14_fewest_84 : decode cX14_fewest 84 = .ok (.lconst 0, 1) := by decide +kernel
theorem dX14_fewest_85 : decode cX14_fewest 85 = .ok (.lor, 1) := by decide +kernel
theorem dX14_fewest_86 : decode cX14_fewest 86 = .ok (.lstore 5, 2) := by decide +kernel
theorem dX14_fewest_88 : decode cX14_fewest 88 = .ok (.iinc 7 1, 3) := by decide +kernel
theorem dX14_fewest_91 : decode cX14_fewest 91 = .ok (.goto (-39), 3) := by decide +kernel
theorem dX14_fewest_94 : decode cX14_fewest 94 = .ok (.iload 4, 2) := by decide +kernel
theorem dX14_fewest_96 : decode cX14_fewest 96 = .ok (.iload_n 3, 1) := by decide +kernel
theorem dX14_fewest_97 : decode cX14_fewest 97 = .ok (.ixor, 1) := by decide +kernel
theorem dX14_fewest_98 : decode cX14_fewest 98 = .ok (.istore 7, 2) := by decide +kernel
theorem dX14_fewest_100 : decode cX14_fewest 100 = .ok (.lload 5, 2) := by decide +kernel
theorem dX14_fewest_102 : decode cX14_fewest 102 = .ok (.lload_n 1, 1) := by decide +kernel
theorem dX14_fewest_103 : decode cX14_fewest 103 = .ok (.lcmp, 1) := by decide +kernel
theorem dX14_fewest_104 : decode cX14_fewest 104 = .ok (.ifCond .ne 38, 3) := by decide +kernel
theorem dX14_fewest_107 : decode cX14_fewest 107 = .ok (.iload_n 3, 1) := by decide +kernel
theorem dX14_fewest_108 : decode cX14_fewest 108 = .ok (.iconst (-1), 1) := by decide +kernel
theorem dX14_fewest_109 : decode cX14_fewest 109 = .ok (.if_icmp .eq 30, 3) := by decide +kernel
theorem dX14_fewest_112 : decode cX14_fewest 112 = .ok (.iload 4, 2) := by decide +kernel
theorem dX14_fewest_114 : decode cX14_fewest 114 = .ok (.invokestatic 419, 3) := by decide +kernel
theorem dX14_fewest_117 : decode cX14_fewest 117 = .ok (.iload_n 3, 1) := by decide +kernel
theorem dX14_fewest_118 : decode cX14_fewest 118 = .ok (.invokestatic 419, 3) := by decide +kernel
theorem dX14_fewest_121 : decode cX14_fewest 121 = .ok (.if_icmp .ne 18, 3) := by decide +kernel
theorem dX14_fewest_124 : decode cX14_fewest 124 = .ok (.iload 7, 2) := by decide +kernel
theorem dX14_fewest_126 : decode cX14_fewest 126 = .ok (.iload 7, 2) := by decide +kernel
theorem dX14_fewest_128 : decode cX14_fewest 128 = .ok (.ineg, 1) := by decide +kernel
theorem dX14_fewest_129 : decode cX14_fewest 129 = .ok (.iand, 1) := by decide +kernel
theorem dX14_fewest_130 : decode cX14_fewest 130 = .ok (.iload 4, 2) := by decide +kernel
theorem dX14_fewest_132 : decode cX14_fewest 132 = .ok (.iand, 1) := by decide +kernel
theorem dX14_fewest_133 : decode cX14_fewest 133 = .ok (.ifCond .ne 6, 3) := by decide +kernel
theorem dX14_fewest_136 : decode cX14_fewest 136 = .ok (.goto 6, 3) := by decide +kernel
theorem dX14_fewest_139 : decode cX14_fewest 139 = .ok (.iload 4, 2) := by decide +kernel
theorem dX14_fewest_141 : decode cX14_fewest 141 = .ok (.istore_n 3, 1) := by decide +kernel
theorem dX14_fewest_142 : decode cX14_fewest 142 = .ok (.iinc 4 1, 3) := by decide +kernel
theorem dX14_fewest_145 : decode cX14_fewest 145 = .ok (.goto (-130), 3) := by decide +kernel
theorem dX14_fewest_148 : decode cX14_fewest 148 = .ok (.aload_n 0, 1) := by decide +kernel
theorem dX14_fewest_149 : decode cX14_fewest 149 = .ok (.iconst 0, 1) := by decide +kernel
theorem dX14_fewest_150 : decode cX14_fewest 150 = .ok (.putfield 327, 3) := by decide +kernel
theorem dX14_fewest_153 : decode cX14_fewest 153 = .ok (.iconst 0, 1) := by decide +kernel
theorem dX14_fewest_154 : decode cX14_fewest 154 = .ok (.istore 4, 2) := by decide +kernel
theorem dX14_fewest_156 : decode cX14_fewest 156 = .ok (.iload 4, 2) := by decide +kernel
theorem dX14_fewest_158 : decode cX14_fewest 158 = .ok (.aload_n 0, 1) := by decide +kernel
theorem dX14_fewest_159 : decode cX14_fewest 159 = .ok (.getfield 324, 3) := by decide +kernel
theorem dX14_fewest_162 : decode cX14_fewest 162 = .ok (.if_icmp .ge 42, 3) := by decide +kernel
theorem dX14_fewest_165 : decode cX14_fewest 165 = .ok (.iload_n 3, 1) := by decide +kernel
theorem dX14_fewest_166 : decode cX14_fewest 166 = .ok (.iload 4, 2) := by decide +kernel
theorem dX14_fewest_168 : decode cX14_fewest 168 = .ok (.ishr, 1) := by decide +kernel
theorem dX14_fewest_169 : decode cX14_fewest 169 = .ok (.iconst 1, 1) := by decide +kernel
theorem dX14_fewest_170 : decode cX14_fewest 170 = .ok (.iand, 1) := by decide +kernel
theorem dX14_fewest_171 : decode cX14_fewest 171 = .ok (.ifCond .ne 6, 3) := by decide +kernel
theorem dX14_fewest_174 : decode cX14_fewest 174 = .ok (.goto 24, 3) := by decide +kernel
theorem dX14_fewest_177 : decode cX14_fewest 177 = .ok (.aload_n 0, 1) := by decide +kernel
theorem dX14_fewest_178 : decode cX14_fewest 178 = .ok (.getfield 69, 3) := by decide +kernel
theorem dX14_fewest_181 : decode cX14_fewest 181 = .ok (.aload_n 0, 1) := by decide +kernel
theorem dX14_fewest_182 : decode cX14_fewest 182 = .ok (.getfield 327, 3) := by decide +kernel
theorem dX14_fewest_185 : decode cX14_fewest 185 = .ok (.iload 4, 2) := by decide +kernel
theorem dX14_fewest_187 : decode cX14_fewest 187 = .ok (.iastore, 1) := by decide +kernel
theorem dX14_fewest_188 : decode cX14_fewest 188 = .ok (.aload_n 0, 1) := by decide +kernel
theorem dX14_fewest_189 : decode cX14_fewest 189 = .ok (.dup, 1) := by decide +kernel
theorem dX14_fewest_190 : decode cX14_fewest 190 = .ok (.getfield 327, 3) := by decide +kernel
theorem dX14_fewest_193 : decode cX14_fewest 193 = .ok (.iconst 1, 1) := by decide +kernel
theorem dX14_fewest_194 : decode cX14_fewest 194 = .ok (.iadd, 1) := by decide +kernel
theorem dX14_fewest_195 : decode cX14_fewest 195 = .ok (.putfield 327, 3) := by decide +kernel
theorem dX14_fewest_198 : decode cX14_fewest 198 = .ok (.iinc 4 1, 3) := by decide +kernel
theorem dX14_fewest_201 : decode cX14_fewest 201 = .ok (.goto (-45), 3) := by decide +kernel
theorem dX14_fewest_204 : decode cX14_fewest 204 = .ok (.aload_n 0, 1) := by decide +kernel
theorem dX14_fewest_205 : decode cX14_fewest 205 = .ok (.getfield 327, 3) := by decide +kernel
theorem dX14_fewest_208 : decode cX14_fewest 208 = .ok (.ireturn, 1) := by decide +kernel
theorem dX14_picked_0 : decode cX14_picked 0 = .ok (.aload_n 0, 1) := by decide +kernel
theorem dX14_picked_1 : decode cX14_picked 1 = .ok (.iconst 0, 1) := by decide +kernel
theorem dX14_picked_2 : decode cX14_picked 2 = .ok (.putfield 76, 3) := by decide +kernel
theorem dX14_picked_5 : decode cX14_picked 5 = .ok (.iload_n 1, 1) := by decide +kernel
theorem dX14_picked_6 : decode cX14_picked 6 = .ok (.ifCond .lt 20, 3) := by decide +kernel
theorem dX14_picked_9 : decode cX14_picked 9 = .ok (.iload_n 1, 1) := by decide +kernel
theorem dX14_picked_10 : decode cX14_picked 10 = .ok (.aload_n 0, 1) := by decide +kernel
theorem dX14_picked_11 : decode cX14_picked 11 = .ok (.getfield 327, 3) := by decide +kernel
theorem dX14_picked_14 : decode cX14_picked 14 = .ok (.if_icmp .ge 12, 3) := by decide +kernel
theorem dX14_picked_17 : decode cX14_picked 17 = .ok (.aload_n 0, 1) := by decide +kernel
theorem dX14_picked_18 : decode cX14_picked 18 = .ok (.getfield 69, 3) := by decide +kernel
theorem dX14_picked_21 : decode cX14_picked 21 = .ok (.iload_n 1, 1) := by decide +kernel
theorem dX14_picked_22 : decode cX14_picked 22 = .ok (.iaload, 1) := by decide +kernel
theorem dX14_picked_23 : decode cX14_picked 23 = .ok (.goto 4, 3) := by decide +kernel
theorem dX14_picked_26 : decode cX14_picked 26 = .ok (.iconst (-1), 1) := by decide +kernel
theorem dX14_picked_27 : decode cX14_picked 27 = .ok (.ireturn, 1) := by decide +kernel
theorem dX14_isNew_0 : decode cX14_isNew 0 = .ok (.aload_n 0, 1) := by decide +kernel
theorem dX14_isNew_1 : decode cX14_isNew 1 = .ok (.getfield 321, 3) := by decide +kernel
theorem dX14_isNew_4 : decode cX14_isNew 4 = .ok (.ifCond .eq 22, 3) := by decide +kernel
theorem dX14_isNew_7 : decode cX14_isNew 7 = .ok (.aload_n 0, 1) := by decide +kernel
theorem dX14_isNew_8 : decode cX14_isNew 8 = .ok (.getfield 20, 3) := by decide +kernel
theorem dX14_isNew_11 : decode cX14_isNew 11 = .ok (.aload_n 0, 1) := by decide +kernel
theorem dX14_isNew_12 : decode cX14_isNew 12 = .ok (.getfield 16, 3) := by decide +kernel
theorem dX14_isNew_15 : decode cX14_isNew 15 = .ok (.getfield 215, 3) := by decide +kernel
theorem dX14_isNew_18 : decode cX14_isNew 18 = .ok (.iload_n 1, 1) := by decide +kernel
theorem dX14_isNew_19 : decode cX14_isNew 19 = .ok (.laload, 1) := by decide +kernel
theorem dX14_isNew_20 : decode cX14_isNew 20 = .ok (.invokevirtual 192, 3) := by decide +kernel
theorem dX14_isNew_23 : decode cX14_isNew 23 = .ok (.goto 4, 3) := by decide +kernel
theorem dX14_isNew_26 : decode cX14_isNew 26 = .ok (.iconst (-1), 1) := by decide +kernel
theorem dX14_isNew_27 : decode cX14_isNew 27 = .ok (.istore_n 2, 1) := by decide +kernel
theorem dX14_isNew_28 : decode cX14_isNew 28 = .ok (.iload_n 2, 1) := by decide +kernel
theorem dX14_isNew_29 : decode cX14_isNew 29 = .ok (.iconst (-1), 1) := by decide +kernel
theorem dX14_isNew_30 : decode cX14_isNew 30 = .ok (.if_icmp .eq 19, 3) := by decide +kernel
theorem dX14_isNew_33 : decode cX14_isNew 33 = .ok (.aload_n 0, 1) := by decide +kernel
theorem dX14_isNew_34 : decode cX14_isNew 34 = .ok (.getfield 16, 3) := by decide +kernel
theorem dX14_isNew_37 : decode cX14_isNew 37 = .ok (.iload_n 1, 1) := by decide +kernel
theorem dX14_isNew_38 : decode cX14_isNew 38 = .ok (.aload_n 0, 1) := by decide +kernel
theorem dX14_isNew_39 : decode cX14_isNew 39 = .ok (.getfield 20, 3) := by decide +kernel
theorem dX14_isNew_42 : decode cX14_isNew 42 = .ok (.iload_n 2, 1) := by decide +kernel
theorem dX14_isNew_43 : decode cX14_isNew 43 = .ok (.invokevirtual 432, 3) := by decide +kernel
theorem dX14_isNew_46 : decode cX14_isNew 46 = .ok (.ifCond .ne 7, 3) := by decide +kernel
theorem dX14_isNew_49 : decode cX14_isNew 49 = .ok (.iconst 1, 1) := by decide +kernel
theorem dX14_isNew_50 : decode cX14_isNew 50 = .ok (.goto 4, 3) := by decide +kernel
theorem dX14_isNew_53 : decode cX14_isNew 53 = .ok (.iconst 0, 1) := by decide +kernel
theorem dX14_isNew_54 : decode cX14_isNew 54 = .ok (.ireturn, 1) := by decide +kernel
theorem dX14_anew_0 : decode cX14_anew 0 = .ok (.aload_n 0, 1) := by decide +kernel
theorem dX14_anew_1 : decode cX14_anew 1 = .ok (.iconst 0, 1) := by decide +kernel
theorem dX14_anew_2 : decode cX14_anew 2 = .ok (.putfield 76, 3) := by decide +kernel
theorem dX14_anew_5 : decode cX14_anew 5 = .ok (.aload_n 0, 1) := by decide +kernel
theorem dX14_anew_6 : decode cX14_anew 6 = .ok (.iload_n 1, 1) := by decide +kernel
theorem dX14_anew_7 : decode cX14_anew 7 = .ok (.invokevirtual 336, 3) := by decide +kernel
theorem dX14_anew_10 : decode cX14_anew 10 = .ok (.ifCond .ne 5, 3) := by decide +kernel
theorem dX14_anew_13 : decode cX14_anew 13 = .ok (.iconst (-1), 1) := by decide +kernel
theorem dX14_anew_14 : decode cX14_anew 14 = .ok (.ireturn, 1) := by decide +kernel
theorem dX14_anew_15 : decode cX14_anew 15 = .ok (.aload_n 0, 1) := by decide +kernel
theorem dX14_anew_16 : decode cX14_anew 16 = .ok (.iload_n 1, 1) := by decide +kernel
theorem dX14_anew_17 : decode cX14_anew 17 = .ok (.invokevirtual 436, 3) := by decide +kernel
theorem dX14_anew_20 : decode cX14_anew 20 = .ok (.ifCond .eq 5, 3) := by decide +kernel
theorem dX14_anew_23 : decode cX14_anew 23 = .ok (.iconst 2, 1) := by decide +kernel
theorem dX14_anew_24 : decode cX14_anew 24 = .ok (.ireturn, 1) := by decide +kernel
theorem dX14_anew_25 : decode cX14_anew 25 = .ok (.aload_n 0, 1) := by decide +kernel
theorem dX14_anew_26 : decode cX14_anew 26 = .ok (.getfield 16, 3) := by decide +kernel
theorem dX14_anew_29 : decode cX14_anew 29 = .ok (.getfield 301, 3) := by decide +kernel
theorem dX14_anew_32 : decode cX14_anew 32 = .ok (.iload_n 1, 1) := by decide +kernel
theorem dX14_anew_33 : decode cX14_anew 33 = .ok (.iaload, 1) := by decide +kernel
theorem dX14_anew_34 : decode cX14_anew 34 = .ok (.istore_n 2, 1) := by decide +kernel
theorem dX14_anew_35 : decode cX14_anew 35 = .ok (.iconst (-1), 1) := by decide +kernel
theorem dX14_anew_36 : decode cX14_anew 36 = .ok (.istore_n 3, 1) := by decide +kernel
theorem dX14_anew_37 : decode cX14_anew 37 = .ok (.iload_n 2, 1) := by decide +kernel
theorem dX14_anew_38 : decode cX14_anew 38 = .ok (.iload_n 3, 1) := by decide +kernel
theorem dX14_anew_39 : decode cX14_anew 39 = .ok (.if_icmp .eq 56, 3) := by decide +kernel
theorem dX14_anew_42 : decode cX14_anew 42 = .ok (.iload_n 2, 1) := by decide +kernel
theorem dX14_anew_43 : decode cX14_anew 43 = .ok (.istore_n 3, 1) := by decide +kernel
theorem dX14_anew_44 : decode cX14_anew 44 = .ok (.iconst 0, 1) := by decide +kernel
theorem dX14_anew_45 : decode cX14_anew 45 = .ok (.istore 4, 2) := by decide +kernel
theorem dX14_anew_47 : decode cX14_anew 47 = .ok (.iload 4, 2) := by decide +kernel
theorem dX14_anew_49 : decode cX14_anew 49 = .ok (.aload_n 0, 1) := by decide +kernel
theorem dX14_anew_50 : decode cX14_anew 50 = .ok (.getfield 16, 3) := by decide +kernel
theorem dX14_anew_53 : decode cX14_anew 53 = .ok (.getfield 168, 3) := by decide +kernel
theorem dX14_anew_56 : decode cX14_anew 56 = .ok (.if_icmp .ge 36, 3) := by decide +kernel
theorem dX14_anew_59 : decode cX14_anew 59 = .ok (.iload_n 2, 1) := by decide +kernel
theorem dX14_anew_60 : decode cX14_anew 60 = .ok (.iload_n 2, 1) := by decide +kernel
theorem dX14_anew_61 : decode cX14_anew 61 = .ok (.iload 4, 2) := by decide +kernel
theorem dX14_anew_63 : decode cX14_anew 63 = .ok (.ishr, 1) := by decide +kernel
theorem dX14_anew_64 : decode cX14_anew 64 = .ok (.iconst 1, 1) := by decide +kernel
theorem dX14_anew_65 : decode cX14_anew 65 = .ok (.iand, 1) := by decide +kernel
theorem dX14_anew_66 : decode cX14_anew 66 = .ok (.iconst 1, 1) := by decide +kernel
theorem dX14_anew_67 : decode cX14_anew 67 = .ok (.if_icmp .ne 16, 3) := by decide +kernel
theorem dX14_anew_70 : decode cX14_anew 70 = .ok (.aload_n 0, 1) := by decide +kernel
theorem dX14_anew_71 : decode cX14_anew 71 = .ok (.getfield 16, 3) := by decide +kernel
theorem dX14_anew_74 : decode cX14_anew 74 = .ok (.getfield 301, 3) := by decide +kernel
theorem dX14_anew_77 : decode cX14_anew 77 = .ok (.iload 4, 2) := by decide +kernel
theorem dX14_anew_79 : decode cX14_anew 79 = .ok (.iaload, 1) := by decide +kernel
theorem dX14_anew_80 : decode cX14_anew 80 = .ok (.goto 4, 3) := by decide +kernel
theorem dX14_anew_83 : decode cX14_anew 83 = .ok (.iconst 0, 1) := by decide +kernel
theorem dX14_anew_84 : decode cX14_anew 84 = .ok (.ior, 1) := by decide +kernel
theorem dX14_anew_85 : decode cX14_anew 85 = .ok (.istore_n 2, 1) := by decide +kernel
theorem dX14_anew_86 : decode cX14_anew 86 = .ok (.iinc 4 1, 3) := by decide +kernel
theorem dX14_anew_89 : decode cX14_anew 89 = .ok (.goto (-42), 3) := by decide +kernel
theorem dX14_anew_92 : decode cX14_anew 92 = .ok (.goto (-55), 3) := by decide +kernel
theorem dX14_anew_95 : decode cX14_anew 95 = .ok (.iconst 0, 1) := by decide +kernel
theorem dX14_anew_96 : decode cX14_anew 96 = .ok (.istore 4, 2) := by decide +kernel
theorem dX14_anew_98 : decode cX14_anew 98 = .ok (.iconst 0, 1) := by decide +kernel
theorem dX14_anew_99 : decode cX14_anew 99 = .ok (.istore 5, 2) := by decide +kernel
theorem dX14_anew_101 : decode cX14_anew 101 = .ok (.iload 5, 2) := by decide +kernel
theorem dX14_anew_103 : decode cX14_anew 103 = .ok (.aload_n 0, 1) := by decide +kernel
theorem dX14_anew_104 : decode cX14_anew 104 = .ok (.getfield 16, 3) := by decide +kernel
theorem dX14_anew_107 : decode cX14_anew 107 = .ok (.getfield 168, 3) := by decide +kernel
theorem dX14_anew_110 : decode cX14_anew 110 = .ok (.if_icmp .ge 40, 3) := by decide +kernel
theorem dX14_anew_113 : decode cX14_anew 113 = .ok (.iload 4, 2) := by decide +kernel
theorem dX14_anew_115 : decode cX14_anew 115 = .ok (.ifCond .ne 22, 3) := by decide +kernel
theorem dX14_anew_118 : decode cX14_anew 118 = .ok (.iload_n 2, 1) := by decide +kernel
theorem dX14_anew_119 : decode cX14_anew 119 = .ok (.iload 5, 2) := by decide +kernel
theorem dX14_anew_121 : decode cX14_anew 121 = .ok (.ishr, 1) := by decide +kernel
theorem dX14_anew_122 : decode cX14_anew 122 = .ok (.iconst 1, 1) := by decide +kernel
theorem dX14_anew_123 : decode cX14_anew 123 = .ok (.iand, 1) := by decide +kernel
theorem dX14_anew_124 : decode cX14_anew 124 = .ok (.iconst 1, 1) := by decide +kernel
theorem dX14_anew_125 : decode cX14_anew 125 = .ok (.if_icmp .ne 16, 3) := by decide +kernel
theorem dX14_anew_128 : decode cX14_anew 128 = .ok (.aload_n 0, 1) := by decide +kernel
theorem dX14_anew_129 : decode cX14_anew 129 = .ok (.iload 5, 2) := by decide +kernel
theorem dX14_anew_131 : decode cX14_anew 131 = .ok (.invokevirtual 436, 3) := by decide +kernel
theorem dX14_anew_134 : decode cX14_anew 134 = .ok (.ifCond .eq 7, 3) := by decide +kernel
theorem dX14_anew_137 : decode cX14_anew 137 = .ok (.iconst 1, 1) := by decide +kernel
theorem dX14_anew_138 : decode cX14_anew 138 = .ok (.goto 4, 3) := by decide +kernel
theorem dX14_anew_141 : decode cX14_anew 141 = .ok (.iconst 0, 1) := by decide +kernel
theorem dX14_anew_142 : decode cX14_anew 142 = .ok (.istore 4, 2) := by decide +kernel
theorem dX14_anew_144 : decode cX14_anew 144 = .ok (.iinc 5 1, 3) := by decide +kernel
theorem dX14_anew_147 : decode cX14_anew 147 = .ok (.goto (-46), 3) := by decide +kernel
theorem dX14_anew_150 : decode cX14_anew 150 = .ok (.iload 4, 2) := by decide +kernel
theorem dX14_anew_152 : decode cX14_anew 152 = .ok (.ifCond .eq 7, 3) := by decide +kernel
theorem dX14_anew_155 : decode cX14_anew 155 = .ok (.iconst 1, 1) := by decide +kernel
theorem dX14_anew_156 : decode cX14_anew 156 = .ok (.goto 4, 3) := by decide +kernel
theorem dX14_anew_159 : decode cX14_anew 159 = .ok (.iconst 0, 1) := by decide +kernel
theorem dX14_anew_160 : decode cX14_anew 160 = .ok (.ireturn, 1) := by decide +kernel
theorem dX14_gone_0 : decode cX14_gone 0 = .ok (.aload_n 0, 1) := by decide +kernel
theorem dX14_gone_1 : decode cX14_gone 1 = .ok (.iconst 0, 1) := by decide +kernel
theorem dX14_gone_2 : decode cX14_gone 2 = .ok (.putfield 76, 3) := by decide +kernel
theorem dX14_gone_5 : decode cX14_gone 5 = .ok (.iconst 0, 1) := by decide +kernel
theorem dX14_gone_6 : decode cX14_gone 6 = .ok (.istore_n 1, 1) := by decide +kernel
theorem dX14_gone_7 : decode cX14_gone 7 = .ok (.iconst 0, 1) := by decide +kernel
theorem dX14_gone_8 : decode cX14_gone 8 = .ok (.istore_n 2, 1) := by decide +kernel
theorem dX14_gone_9 : decode cX14_gone 9 = .ok (.aload_n 0, 1) := by decide +kernel
theorem dX14_gone_10 : decode cX14_gone 10 = .ok (.getfield 321, 3) := by decide +kernel
theorem dX14_gone_13 : decode cX14_gone 13 = .ok (.ifCond .eq 48, 3) := by decide +kernel
theorem dX14_gone_16 : decode cX14_gone 16 = .ok (.iload_n 2, 1) := by decide +kernel
theorem dX14_gone_17 : decode cX14_gone 17 = .ok (.aload_n 0, 1) := by decide +kernel
theorem dX14_gone_18 : decode cX14_gone 18 = .ok (.getfield 20, 3) := by decide +kernel
theorem dX14_gone_21 : decode cX14_gone 21 = .ok (.getfield 168, 3) := by decide +kernel
theorem dX14_gone_24 : decode cX14_gone 24 = .ok (.if_icmp .ge 37, 3) := by decide +kernel
theorem dX14_gone_27 : decode cX14_gone 27 = .ok (.iload_n 1, 1) := by decide +kernel
theorem dX14_gone_28 : decode cX14_gone 28 = .ok (.aload_n 0, 1) := by decide +kernel
theorem dX14_gone_29 : decode cX14_gone 29 = .ok (.getfield 16, 3) := by decide +kernel
theorem dX14_gone_32 : decode cX14_gone 32 = .ok (.aload_n 0, 1) := by decide +kernel
theorem dX14_gone_33 : decode cX14_gone 33 = .ok (.getfield 20, 3) := by decide +kernel
theorem dX14_gone_36 : decode cX14_gone 36 = .ok (.getfield 215, 3) := by decide +kernel
theorem dX14_gone_39 : decode cX14_gone 39 = .ok (.iload_n 2, 1) := by decide +kernel
theorem dX14_gone_40 : decode cX14_gone 40 = .ok (.laload, 1) := by decide +kernel
theorem dX14_gone_41 : decode cX14_gone 41 = .ok (.invokevirtual 192, 3) := by decide +kernel
theorem dX14_gone_44 : decode cX14_gone 44 = .ok (.iconst (-1), 1) := by decide +kernel
theorem dX14_gone_45 : decode cX14_gone 45 = .ok (.if_icmp .ne 7, 3) := by decide +kernel
theorem dX14_gone_48 : decode cX14_gone 48 = .ok (.iconst 1, 1) := by decide +kernel
theorem dX14_gone_49 : decode cX14_gone 49 = .ok (.goto 4, 3) := by decide +kernel
theorem dX14_gone_52 : decode cX14_gone 52 = .ok (.iconst 0, 1) := by decide +kernel
theorem dX14_gone_53 : decode cX14_gone 53 = .ok (.iadd, 1) := by decide +kernel
theorem dX14_gone_54 : decode cX14_gone 54 = .ok (.istore_n 1, 1) := by decide +kernel
theorem dX14_gone_55 : decode cX14_gone 55 = .ok (.iinc 2 1, 3) := by decide +kernel
theorem dX14_gone_58 : decode cX14_gone 58 = .ok (.goto (-49), 3) := by decide +kernel
theorem dX14_gone_61 : decode cX14_gone 61 = .ok (.iload_n 1, 1) := by decide +kernel
theorem dX14_gone_62 : decode cX14_gone 62 = .ok (.ireturn, 1) := by decide +kernel
theorem dX14_count_0 : decode cX14_count 0 = .ok (.aload_n 0, 1) := by decide +kernel
theorem dX14_count_1 : decode cX14_count 1 = .ok (.iconst 0, 1) := by decide +kernel
theorem dX14_count_2 : decode cX14_count 2 = .ok (.putfield 76, 3) := by decide +kernel
theorem dX14_count_5 : decode cX14_count 5 = .ok (.iload_n 1, 1) := by decide +kernel
theorem dX14_count_6 : decode cX14_count 6 = .ok (.tableswitch 78 0 3 #[30, 49, 68, 73], 30) := by decide +kernel
theorem dX14_count_36 : decode cX14_count 36 = .ok (.aload_n 0, 1) := by decide +kernel
theorem dX14_count_37 : decode cX14_count 37 = .ok (.getfield 318, 3) := by decide +kernel
theorem dX14_count_40 : decode cX14_count 40 = .ok (.ifCond .eq 13, 3) := by decide +kernel
theorem dX14_count_43 : decode cX14_count 43 = .ok (.aload_n 0, 1) := by decide +kernel
theorem dX14_count_44 : decode cX14_count 44 = .ok (.getfield 16, 3) := by decide +kernel
theorem dX14_count_47 : decode cX14_count 47 = .ok (.getfield 168, 3) := by decide +kernel
theorem dX14_count_50 : decode cX14_count 50 = .ok (.goto 4, 3) := by decide +kernel
theorem dX14_count_53 : decode cX14_count 53 = .ok (.iconst 0, 1) := by decide +kernel
theorem dX14_count_54 : decode cX14_count 54 = .ok (.ireturn, 1) := by decide +kernel
theorem dX14_count_55 : decode cX14_count 55 = .ok (.aload_n 0, 1) := by decide +kernel
theorem dX14_count_56 : decode cX14_count 56 = .ok (.getfield 318, 3) := by decide +kernel
theorem dX14_count_59 : decode cX14_count 59 = .ok (.ifCond .eq 13, 3) := by decide +kernel
theorem dX14_count_62 : decode cX14_count 62 = .ok (.aload_n 0, 1) := by decide +kernel
theorem dX14_count_63 : decode cX14_count 63 = .ok (.getfield 16, 3) := by decide +kernel
theorem dX14_count_66 : decode cX14_count 66 = .ok (.getfield 171, 3) := by decide +kernel
theorem dX14_count_69 : decode cX14_count 69 = .ok (.goto 4, 3) := by decide +kernel
theorem dX14_count_72 : decode cX14_count 72 = .ok (.iconst 0, 1) := by decide +kernel
theorem dX14_count_73 : decode cX14_count 73 = .ok (.ireturn, 1) := by decide +kernel
theorem dX14_count_74 : decode cX14_count 74 = .ok (.aload_n 0, 1) := by decide +kernel
theorem dX14_count_75 : decode cX14_count 75 = .ok (.getfield 324, 3) := by decide +kernel
theorem dX14_count_78 : decode cX14_count 78 = .ok (.ireturn, 1) := by decide +kernel
theorem dX14_count_79 : decode cX14_count 79 = .ok (.aload_n 0, 1) := by decide +kernel
theorem dX14_count_80 : decode cX14_count 80 = .ok (.getfield 304, 3) := by decide +kernel
theorem dX14_count_83 : decode cX14_count 83 = .ok (.ireturn, 1) := by decide +kernel
theorem dX14_count_84 : decode cX14_count 84 = .ok (.iconst (-1), 1) := by decide +kernel
theorem dX14_count_85 : decode cX14_count 85 = .ok (.ireturn, 1) := by decide +kernel
theorem dX14_trouble_0 : decode cX14_trouble 0 = .ok (.aload_n 0, 1) := by decide +kernel
theorem dX14_trouble_1 : decode cX14_trouble 1 = .ok (.iconst 0, 1) := by decide +kernel
theorem dX14_trouble_2 : decode cX14_trouble 2 = .ok (.putfield 76, 3) := by decide +kernel
theorem dX14_trouble_5 : decode cX14_trouble 5 = .ok (.aload_n 0, 1) := by decide +kernel
theorem dX14_trouble_6 : decode cX14_trouble 6 = .ok (.getfield 79, 3) := by decide +kernel
theorem dX14_trouble_9 : decode cX14_trouble 9 = .ok (.ireturn, 1) := by decide +kernel
theorem dJ6_bitCount_0f7a4_0 : decode cJ6_bitCount_0f7a4 0 = .ok (.iload_n 0, 1) := by decide +kernel
theorem dJ6_bitCount_0f7a4_1 : decode cJ6_bitCount_0f7a4 1 = .ok (.iload_n 0, 1) := by decide +kernel
theorem dJ6_bitCount_0f7a4_2 : decode cJ6_bitCount_0f7a4 2 = .ok (.iconst 1, 1) := by decide +kernel
theorem dJ6_bitCount_0f7a4_3 : decode cJ6_bitCount_0f7a4 3 = .ok (.iushr, 1) := by decide +kernel
theorem dJ6_bitCount_0f7a4_4 : decode cJ6_bitCount_0f7a4 4 = .ok (.ldc_w 265, 3) := by decide +kernel
theorem dJ6_bitCount_0f7a4_7 : decode cJ6_bitCount_0f7a4 7 = .ok (.iand, 1) := by decide +kernel
theorem dJ6_bitCount_0f7a4_8 : decode cJ6_bitCount_0f7a4 8 = .ok (.isub, 1) := by decide +kernel
theorem dJ6_bitCount_0f7a4_9 : decode cJ6_bitCount_0f7a4 9 = .ok (.istore_n 0, 1) := by decide +kernel
theorem dJ6_bitCount_0f7a4_10 : decode cJ6_bitCount_0f7a4 10 = .ok (.iload_n 0, 1) := by decide +kernel
theorem dJ6_bitCount_0f7a4_11 : decode cJ6_bitCount_0f7a4 11 = .ok (.ldc_w 266, 3) := by decide +kernel
theorem dJ6_bitCount_0f7a4_14 : decode cJ6_bitCount_0f7a4 14 = .ok (.iand, 1) := by decide +kernel
theorem dJ6_bitCount_0f7a4_15 : decode cJ6_bitCount_0f7a4 15 = .ok (.iload_n 0, 1) := by decide +kernel
theorem dJ6_bitCount_0f7a4_16 : decode cJ6_bitCount_0f7a4 16 = .ok (.iconst 2, 1) := by decide +kernel
theorem dJ6_bitCount_0f7a4_17 : decode cJ6_bitCount_0f7a4 17 = .ok (.iushr, 1) := by decide +kernel
theorem dJ6_bitCount_0f7a4_18 : decode cJ6_bitCount_0f7a4 18 = .ok (.ldc_w 266, 3) := by decide +kernel
theorem dJ6_bitCount_0f7a4_21 : decode cJ6_bitCount_0f7a4 21 = .ok (.iand, 1) := by decide +kernel
theorem dJ6_bitCount_0f7a4_22 : decode cJ6_bitCount_0f7a4 22 = .ok (.iadd, 1) := by decide +kernel
theorem dJ6_bitCount_0f7a4_23 : decode cJ6_bitCount_0f7a4 23 = .ok (.istore_n 0, 1) := by decide +kernel
theorem dJ6_bitCount_0f7a4_24 : decode cJ6_bitCount_0f7a4 24 = .ok (.iload_n 0, 1) := by decide +kernel
theorem dJ6_bitCount_0f7a4_25 : decode cJ6_bitCount_0f7a4 25 = .ok (.iload_n 0, 1) := by decide +kernel
theorem dJ6_bitCount_0f7a4_26 : decode cJ6_bitCount_0f7a4 26 = .ok (.iconst 4, 1) := by decide +kernel
theorem dJ6_bitCount_0f7a4_27 : decode cJ6_bitCount_0f7a4 27 = .ok (.iushr, 1) := by decide +kernel
theorem dJ6_bitCount_0f7a4_28 : decode cJ6_bitCount_0f7a4 28 = .ok (.iadd, 1) := by decide +kernel
theorem dJ6_bitCount_0f7a4_29 : decode cJ6_bitCount_0f7a4 29 = .ok (.ldc_w 267, 3) := by decide +kernel
theorem dJ6_bitCount_0f7a4_32 : decode cJ6_bitCount_0f7a4 32 = .ok (.iand, 1) := by decide +kernel
theorem dJ6_bitCount_0f7a4_33 : decode cJ6_bitCount_0f7a4 33 = .ok (.istore_n 0, 1) := by decide +kernel
theorem dJ6_bitCount_0f7a4_34 : decode cJ6_bitCount_0f7a4 34 = .ok (.iload_n 0, 1) := by decide +kernel
theorem dJ6_bitCount_0f7a4_35 : decode cJ6_bitCount_0f7a4 35 = .ok (.iload_n 0, 1) := by decide +kernel
theorem dJ6_bitCount_0f7a4_36 : decode cJ6_bitCount_0f7a4 36 = .ok (.bipush 8, 2) := by decide +kernel
theorem dJ6_bitCount_0f7a4_38 : decode cJ6_bitCount_0f7a4 38 = .ok (.iushr, 1) := by decide +kernel
theorem dJ6_bitCount_0f7a4_39 : decode cJ6_bitCount_0f7a4 39 = .ok (.iadd, 1) := by decide +kernel
theorem dJ6_bitCount_0f7a4_40 : decode cJ6_bitCount_0f7a4 40 = .ok (.istore_n 0, 1) := by decide +kernel
theorem dJ6_bitCount_0f7a4_41 : decode cJ6_bitCount_0f7a4 41 = .ok (.iload_n 0, 1) := by decide +kernel
theorem dJ6_bitCount_0f7a4_42 : decode cJ6_bitCount_0f7a4 42 = .ok (.iload_n 0, 1) := by decide +kernel
theorem dJ6_bitCount_0f7a4_43 : decode cJ6_bitCount_0f7a4 43 = .ok (.bipush 16, 2) := by decide +kernel
theorem dJ6_bitCount_0f7a4_45 : decode cJ6_bitCount_0f7a4 45 = .ok (.iushr, 1) := by decide +kernel
theorem dJ6_bitCount_0f7a4_46 : decode cJ6_bitCount_0f7a4 46 = .ok (.iadd, 1) := by decide +kernel
theorem dJ6_bitCount_0f7a4_47 : decode cJ6_bitCount_0f7a4 47 = .ok (.istore_n 0, 1) := by decide +kernel
theorem dJ6_bitCount_0f7a4_48 : decode cJ6_bitCount_0f7a4 48 = .ok (.iload_n 0, 1) := by decide +kernel
theorem dJ6_bitCount_0f7a4_49 : decode cJ6_bitCount_0f7a4 49 = .ok (.bipush 63, 2) := by decide +kernel
theorem dJ6_bitCount_0f7a4_51 : decode cJ6_bitCount_0f7a4 51 = .ok (.iand, 1) := by decide +kernel
theorem dJ6_bitCount_0f7a4_52 : decode cJ6_bitCount_0f7a4 52 = .ok (.ireturn, 1) := by decide +kernel
theorem dJ13_bitCount_95d88_0 : decode cJ13_bitCount_95d88 0 = .ok (.lload_n 0, 1) := by decide +kernel
theorem dJ13_bitCount_95d88_1 : decode cJ13_bitCount_95d88 1 = .ok (.lload_n 0, 1) := by decide +kernel
theorem dJ13_bitCount_95d88_2 : decode cJ13_bitCount_95d88 2 = .ok (.iconst 1, 1) := by decide +kernel
theorem dJ13_bitCount_95d88_3 : decode cJ13_bitCount_95d88 3 = .ok (.lushr, 1) := by decide +kernel
theorem dJ13_bitCount_95d88_4 : decode cJ13_bitCount_95d88 4 = .ok (.ldc2_w 314, 3) := by decide +kernel
theorem dJ13_bitCount_95d88_7 : decode cJ13_bitCount_95d88 7 = .ok (.land, 1) := by decide +kernel
theorem dJ13_bitCount_95d88_8 : decode cJ13_bitCount_95d88 8 = .ok (.lsub, 1) := by decide +kernel
theorem dJ13_bitCount_95d88_9 : decode cJ13_bitCount_95d88 9 = .ok (.lstore_n 0, 1) := by decide +kernel
theorem dJ13_bitCount_95d88_10 : decode cJ13_bitCount_95d88 10 = .ok (.lload_n 0, 1) := by decide +kernel
theorem dJ13_bitCount_95d88_11 : decode cJ13_bitCount_95d88 11 = .ok (.ldc2_w 316, 3) := by decide +kernel
theorem dJ13_bitCount_95d88_14 : decode cJ13_bitCount_95d88 14 = .ok (.land, 1) := by decide +kernel
theorem dJ13_bitCount_95d88_15 : decode cJ13_bitCount_95d88 15 = .ok (.lload_n 0, 1) := by decide +kernel
theorem dJ13_bitCount_95d88_16 : decode cJ13_bitCount_95d88 16 = .ok (.iconst 2, 1) := by decide +kernel
theorem dJ13_bitCount_95d88_17 : decode cJ13_bitCount_95d88 17 = .ok (.lushr, 1) := by decide +kernel
theorem dJ13_bitCount_95d88_18 : decode cJ13_bitCount_95d88 18 = .ok (.ldc2_w 316, 3) := by decide +kernel
theorem dJ13_bitCount_95d88_21 : decode cJ13_bitCount_95d88 21 = .ok (.land, 1) := by decide +kernel
theorem dJ13_bitCount_95d88_22 : decode cJ13_bitCount_95d88 22 = .ok (.ladd, 1) := by decide +kernel
theorem dJ13_bitCount_95d88_23 : decode cJ13_bitCount_95d88 23 = .ok (.lstore_n 0, 1) := by decide +kernel
theorem dJ13_bitCount_95d88_24 : decode cJ13_bitCount_95d88 24 = .ok (.lload_n 0, 1) := by decide +kernel
theorem dJ13_bitCount_95d88_25 : decode cJ13_bitCount_95d88 25 = .ok (.lload_n 0, 1) := by decide +kernel
theorem dJ13_bitCount_95d88_26 : decode cJ13_bitCount_95d88 26 = .ok (.iconst 4, 1) := by decide +kernel
theorem dJ13_bitCount_95d88_27 : decode cJ13_bitCount_95d88 27 = .ok (.lushr, 1) := by decide +kernel
theorem dJ13_bitCount_95d88_28 : decode cJ13_bitCount_95d88 28 = .ok (.ladd, 1) := by decide +kernel
theorem dJ13_bitCount_95d88_29 : decode cJ13_bitCount_95d88 29 = .ok (.ldc2_w 318, 3) := by decide +kernel
theorem dJ13_bitCount_95d88_32 : decode cJ13_bitCount_95d88 32 = .ok (.land, 1) := by decide +kernel
theorem dJ13_bitCount_95d88_33 : decode cJ13_bitCount_95d88 33 = .ok (.lstore_n 0, 1) := by decide +kernel
theorem dJ13_bitCount_95d88_34 : decode cJ13_bitCount_95d88 34 = .ok (.lload_n 0, 1) := by decide +kernel
theorem dJ13_bitCount_95d88_35 : decode cJ13_bitCount_95d88 35 = .ok (.lload_n 0, 1) := by decide +kernel
theorem dJ13_bitCount_95d88_36 : decode cJ13_bitCount_95d88 36 = .ok (.bipush 8, 2) := by decide +kernel
theorem dJ13_bitCount_95d88_38 : decode cJ13_bitCount_95d88 38 = .ok (.lushr, 1) := by decide +kernel
theorem dJ13_bitCount_95d88_39 : decode cJ13_bitCount_95d88 39 = .ok (.ladd, 1) := by decide +kernel
theorem dJ13_bitCount_95d88_40 : decode cJ13_bitCount_95d88 40 = .ok (.lstore_n 0, 1) := by decide +kernel
theorem dJ13_bitCount_95d88_41 : decode cJ13_bitCount_95d88 41 = .ok (.lload_n 0, 1) := by decide +kernel
theorem dJ13_bitCount_95d88_42 : decode cJ13_bitCount_95d88 42 = .ok (.lload_n 0, 1) := by decide +kernel
theorem dJ13_bitCount_95d88_43 : decode cJ13_bitCount_95d88 43 = .ok (.bipush 16, 2) := by decide +kernel
theorem dJ13_bitCount_95d88_45 : decode cJ13_bitCount_95d88 45 = .ok (.lushr, 1) := by decide +kernel
theorem dJ13_bitCount_95d88_46 : decode cJ13_bitCount_95d88 46 = .ok (.ladd, 1) := by decide +kernel
theorem dJ13_bitCount_95d88_47 : decode cJ13_bitCount_95d88 47 = .ok (.lstore_n 0, 1) := by decide +kernel
theorem dJ13_bitCount_95d88_48 : decode cJ13_bitCount_95d88 48 = .ok (.lload_n 0, 1) := by decide +kernel
theorem dJ13_bitCount_95d88_49 : decode cJ13_bitCount_95d88 49 = .ok (.lload_n 0, 1) := by decide +kernel
theorem dJ13_bitCount_95d88_50 : decode cJ13_bitCount_95d88 50 = .ok (.bipush 32, 2) := by decide +kernel
theorem dJ13_bitCount_95d88_52 : decode cJ13_bitCount_95d88 52 = .ok (.lushr, 1) := by decide +kernel
theorem dJ13_bitCount_95d88_53 : decode cJ13_bitCount_95d88 53 = .ok (.ladd, 1) := by decide +kernel
theorem dJ13_bitCount_95d88_54 : decode cJ13_bitCount_95d88 54 = .ok (.lstore_n 0, 1) := by decide +kernel
theorem dJ13_bitCount_95d88_55 : decode cJ13_bitCount_95d88 55 = .ok (.lload_n 0, 1) := by decide +kernel
theorem dJ13_bitCount_95d88_56 : decode cJ13_bitCount_95d88 56 = .ok (.l2i, 1) := by decide +kernel
theorem dJ13_bitCount_95d88_57 : decode cJ13_bitCount_95d88 57 = .ok (.bipush 127, 2) := by decide +kernel
theorem dJ13_bitCount_95d88_59 : decode cJ13_bitCount_95d88 59 = .ok (.iand, 1) := by decide +kernel
theorem dJ13_bitCount_95d88_60 : decode cJ13_bitCount_95d88 60 = .ok (.ireturn, 1) := by decide +kernel
theorem dJ9_max_7cf53_0 : decode cJ9_max_7cf53 0 = .ok (.iload_n 0, 1) := by decide +kernel
theorem dJ9_max_7cf53_1 : decode cJ9_max_7cf53 1 = .ok (.iload_n 1, 1) := by decide +kernel
theorem dJ9_max_7cf53_2 : decode cJ9_max_7cf53 2 = .ok (.if_icmp .lt 7, 3) := by decide +kernel
theorem dJ9_max_7cf53_5 : decode cJ9_max_7cf53 5 = .ok (.iload_n 0, 1) := by decide +kernel
theorem dJ9_max_7cf53_6 : decode cJ9_max_7cf53 6 = .ok (.goto 4, 3) := by decide +kernel
theorem dJ9_max_7cf53_9 : decode cJ9_max_7cf53 9 = .ok (.iload_n 1, 1) := by decide +kernel
theorem dJ9_max_7cf53_10 : decode cJ9_max_7cf53 10 = .ok (.ireturn, 1) := by decide +kernel
theorem dJ9_min_7cf53_0 : decode cJ9_min_7cf53 0 = .ok (.iload_n 0, 1) := by decide +kernel
theorem dJ9_min_7cf53_1 : decode cJ9_min_7cf53 1 = .ok (.iload_n 1, 1) := by decide +kernel
theorem dJ9_min_7cf53_2 : decode cJ9_min_7cf53 2 = .ok (.if_icmp .gt 7, 3) := by decide +kernel
theorem dJ9_min_7cf53_5 : decode cJ9_min_7cf53 5 = .ok (.iload_n 0, 1) := by decide +kernel
theorem dJ9_min_7cf53_6 : decode cJ9_min_7cf53 6 = .ok (.goto 4, 3) := by decide +kernel
theorem dJ9_min_7cf53_9 : decode cJ9_min_7cf53 9 = .ok (.iload_n 1, 1) := by decide +kernel
theorem dJ9_min_7cf53_10 : decode cJ9_min_7cf53 10 = .ok (.ireturn, 1) := by decide +kernel
theorem dJ0_length_8abf5_0 : decode cJ0_length_8abf5 0 = .ok (.aload_n 0, 1) := by decide +kernel
theorem dJ0_length_8abf5_1 : decode cJ0_length_8abf5 1 = .ok (.getfield 9, 3) := by decide +kernel
theorem dJ0_length_8abf5_4 : decode cJ0_length_8abf5 4 = .ok (.arraylength, 1) := by decide +kernel
theorem dJ0_length_8abf5_5 : decode cJ0_length_8abf5 5 = .ok (.aload_n 0, 1) := by decide +kernel
theorem dJ0_length_8abf5_6 : decode cJ0_length_8abf5 6 = .ok (.invokevirtual 335, 3) := by decide +kernel
theorem dJ0_length_8abf5_9 : decode cJ0_length_8abf5 9 = .ok (.ishr, 1) := by decide +kernel
theorem dJ0_length_8abf5_10 : decode cJ0_length_8abf5 10 = .ok (.ireturn, 1) := by decide +kernel
theorem dJ0_charAt_5068e_0 : decode cJ0_charAt_5068e 0 = .ok (.aload_n 0, 1) := by decide +kernel
theorem dJ0_charAt_5068e_1 : decode cJ0_charAt_5068e 1 = .ok (.invokevirtual 492, 3) := by decide +kernel
theorem dJ0_charAt_5068e_4 : decode cJ0_charAt_5068e 4 = .ok (.ifCond .eq 12, 3) := by decide +kernel
theorem dJ0_charAt_5068e_7 : decode cJ0_charAt_5068e 7 = .ok (.aload_n 0, 1) := by decide +kernel
theorem dJ0_charAt_5068e_8 : decode cJ0_charAt_5068e 8 = .ok (.getfield 9, 3) := by decide +kernel
theorem dJ0_charAt_5068e_11 : decode cJ0_charAt_5068e 11 = .ok (.iload_n 1, 1) := by decide +kernel
theorem dJ0_charAt_5068e_12 : decode cJ0_charAt_5068e 12 = .ok (.invokestatic 495, 3) := by decide +kernel
theorem dJ0_charAt_5068e_15 : decode cJ0_charAt_5068e 15 = .ok (.ireturn, 1) := by decide +kernel
theorem dJ0_charAt_5068e_16 : decode cJ0_charAt_5068e 16 = .ok (.aload_n 0, 1) := by decide +kernel
theorem dJ0_charAt_5068e_17 : decode cJ0_charAt_5068e 17 = .ok (.getfield 9, 3) := by decide +kernel
theorem dJ0_charAt_5068e_20 : decode cJ0_charAt_5068e 20 = .ok (.iload_n 1, 1) := by decide +kernel
theorem dJ0_charAt_5068e_21 : decode cJ0_charAt_5068e 21 = .ok (.invokestatic 498, 3) := by decide +kernel
theorem dJ0_charAt_5068e_24 : decode cJ0_charAt_5068e 24 = .ok (.ireturn, 1) := by decide +kernel
theorem dJ0_coder_7d493_0 : decode cJ0_coder_7d493 0 = .ok (.getstatic 38, 3) := by decide +kernel
theorem dJ0_coder_7d493_3 : decode cJ0_coder_7d493 3 = .ok (.ifCond .eq 10, 3) := by decide +kernel
theorem dJ0_coder_7d493_6 : decode cJ0_coder_7d493 6 = .ok (.aload_n 0, 1) := by decide +kernel
theorem dJ0_coder_7d493_7 : decode cJ0_coder_7d493 7 = .ok (.getfield 15, 3) := by decide +kernel
theorem dJ0_coder_7d493_10 : decode cJ0_coder_7d493 10 = .ok (.goto 4, 3) := by decide +kernel
theorem dJ0_coder_7d493_13 : decode cJ0_coder_7d493 13 = .ok (.iconst 1, 1) := by decide +kernel
theorem dJ0_coder_7d493_14 : decode cJ0_coder_7d493 14 = .ok (.ireturn, 1) := by decide +kernel
theorem dJ0_isLatin1_aae02_0 : decode cJ0_isLatin1_aae02 0 = .ok (.getstatic 38, 3) := by decide +kernel
theorem dJ0_isLatin1_aae02_3 : decode cJ0_isLatin1_aae02 3 = .ok (.ifCond .eq 14, 3) := by decide +kernel
theorem dJ0_isLatin1_aae02_6 : decode cJ0_isLatin1_aae02 6 = .ok (.aload_n 0, 1) := by decide +kernel
theorem dJ0_isLatin1_aae02_7 : decode cJ0_isLatin1_aae02 7 = .ok (.getfield 15, 3) := by decide +kernel
theorem dJ0_isLatin1_aae02_10 : decode cJ0_isLatin1_aae02 10 = .ok (.ifCond .ne 7, 3) := by decide +kernel
theorem dJ0_isLatin1_aae02_13 : decode cJ0_isLatin1_aae02 13 = .ok (.iconst 1, 1) := by decide +kernel
theorem dJ0_isLatin1_aae02_14 : decode cJ0_isLatin1_aae02 14 = .ok (.goto 4, 3) := by decide +kernel
theorem dJ0_isLatin1_aae02_17 : decode cJ0_isLatin1_aae02 17 = .ok (.iconst 0, 1) := by decide +kernel
theorem dJ0_isLatin1_aae02_18 : decode cJ0_isLatin1_aae02 18 = .ok (.ireturn, 1) := by decide +kernel
theorem dJ0_checkIndex_df160_0 : decode cJ0_checkIndex_df160 0 = .ok (.iload_n 0, 1) := by decide +kernel
theorem dJ0_checkIndex_df160_1 : decode cJ0_checkIndex_df160 1 = .ok (.iload_n 1, 1) := by decide +kernel
theorem dJ0_checkIndex_df160_2 : decode cJ0_checkIndex_df160 2 = .ok (.getstatic 1053, 3) := by decide +kernel
theorem dJ0_checkIndex_df160_5 : decode cJ0_checkIndex_df160 5 = .ok (.invokestatic 1059, 3) := by decide +kernel
theorem dJ0_checkIndex_df160_8 : decode cJ0_checkIndex_df160 8 = .ok (.pop, 1) := by decide +kernel
theorem dJ0_checkIndex_df160_9 : decode cJ0_checkIndex_df160 9 = .ok (.return_, 1) := by decide +kernel
theorem dJ1_charAt_3b067_0 : decode cJ1_charAt_3b067 0 = .ok (.iload_n 1, 1) := by decide +kernel
theorem dJ1_charAt_3b067_1 : decode cJ1_charAt_3b067 1 = .ok (.aload_n 0, 1) := by decide +kernel
theorem dJ1_charAt_3b067_2 : decode cJ1_charAt_3b067 2 = .ok (.arraylength, 1) := by decide +kernel
theorem dJ1_charAt_3b067_3 : decode cJ1_charAt_3b067 3 = .ok (.invokestatic 9, 3) := by decide +kernel
theorem dJ1_charAt_3b067_6 : decode cJ1_charAt_3b067 6 = .ok (.aload_n 0, 1) := by decide +kernel
theorem dJ1_charAt_3b067_7 : decode cJ1_charAt_3b067 7 = .ok (.iload_n 1, 1) := by decide +kernel
theorem dJ1_charAt_3b067_8 : decode cJ1_charAt_3b067 8 = .ok (.baload, 1) := by decide +kernel
theorem dJ1_charAt_3b067_9 : decode cJ1_charAt_3b067 9 = .ok (.sipush 255, 3) := by decide +kernel
theorem dJ1_charAt_3b067_12 : decode cJ1_charAt_3b067 12 = .ok (.iand, 1) := by decide +kernel
theorem dJ1_charAt_3b067_13 : decode cJ1_charAt_3b067 13 = .ok (.i2c, 1) := by decide +kernel
theorem dJ1_charAt_3b067_14 : decode cJ1_charAt_3b067 14 = .ok (.ireturn, 1) := by decide +kernel
theorem dJ2_getChar_3b067_0 : decode cJ2_getChar_3b067 0 = .ok (.getstatic 44, 3) := by decide +kernel
theorem dJ2_getChar_3b067_3 : decode cJ2_getChar_3b067 3 = .ok (.ifCond .ne 25, 3) := by decide +kernel
theorem dJ2_getChar_3b067_6 : decode cJ2_getChar_3b067 6 = .ok (.iload_n 1, 1) := by decide +kernel
theorem dJ2_getChar_3b067_7 : decode cJ2_getChar_3b067 7 = .ok (.ifCond .lt 11, 3) := by decide +kernel
theorem dJ2_getChar_3b067_10 : decode cJ2_getChar_3b067 10 = .ok (.iload_n 1, 1) := by decide +kernel
theorem dJ2_getChar_3b067_11 : decode cJ2_getChar_3b067 11 = .ok (.aload_n 0, 1) := by decide +kernel
theorem dJ2_getChar_3b067_12 : decode cJ2_getChar_3b067 12 = .ok (.invokestatic 48, 3) := by decide +kernel
theorem dJ2_getChar_3b067_15 : decode cJ2_getChar_3b067 15 = .ok (.if_icmp .lt 13, 3) := by decide +kernel
theorem dJ2_getChar_3b067_18 : decode cJ2_getChar_3b067 18 = .ok (.new 52, 3) := by decide +kernel
theorem dJ2_getChar_3b067_21 : decode cJ2_getChar_3b067 21 = .ok (.dup, 1) := by decide +kernel
theorem dJ2_getChar_3b067_22 : decode cJ2_getChar_3b067 22 = .ok (.ldc 54, 2) := by decide +kernel
theorem dJ2_getChar_3b067_24 : decode cJ2_getChar_3b067 24 = .ok (.invokespecial 56, 3) := by decide +kernel
theorem dJ2_getChar_3b067_27 : decode cJ2_getChar_3b067 27 = .ok (.athrow, 1) := by decide +kernel
theorem dJ2_getChar_3b067_28 : decode cJ2_getChar_3b067 28 = .ok (.iload_n 1, 1) := by decide +kernel
theorem dJ2_getChar_3b067_29 : decode cJ2_getChar_3b067 29 = .ok (.iconst 1, 1) := by decide +kernel
theorem dJ2_getChar_3b067_30 : decode cJ2_getChar_3b067 30 = .ok (.ishl, 1) := by decide +kernel
theorem dJ2_getChar_3b067_31 : decode cJ2_getChar_3b067 31 = .ok (.istore_n 1, 1) := by decide +kernel
theorem dJ2_getChar_3b067_32 : decode cJ2_getChar_3b067 32 = .ok (.aload_n 0, 1) := by decide +kernel
theorem dJ2_getChar_3b067_33 : decode cJ2_getChar_3b067 33 = .ok (.iload_n 1, 1) := by decide +kernel
theorem dJ2_getChar_3b067_34 : decode cJ2_getChar_3b067 34 = .ok (.iinc 1 1, 3) := by decide +kernel
theorem dJ2_getChar_3b067_37 : decode cJ2_getChar_3b067 37 = .ok (.baload, 1) := by decide +kernel
theorem dJ2_getChar_3b067_38 : decode cJ2_getChar_3b067 38 = .ok (.sipush 255, 3) := by decide +kernel
theorem dJ2_getChar_3b067_41 : decode cJ2_getChar_3b067 41 = .ok (.iand, 1) := by decide +kernel
theorem dJ2_getChar_3b067_42 : decode cJ2_getChar_3b067 42 = .ok (.getstatic 59, 3) := by decide +kernel
theorem dJ2_getChar_3b067_45 : decode cJ2_getChar_3b067 45 = .ok (.ishl, 1) := by decide +kernel
theorem dJ2_getChar_3b067_46 : decode cJ2_getChar_3b067 46 = .ok (.aload_n 0, 1) := by decide +kernel
theorem dJ2_getChar_3b067_47 : decode cJ2_getChar_3b067 47 = .ok (.iload_n 1, 1) := by decide +kernel
theorem dJ2_getChar_3b067_48 : decode cJ2_getChar_3b067 48 = .ok (.baload, 1) := by decide +kernel
theorem dJ2_getChar_3b067_49 : decode cJ2_getChar_3b067 49 = .ok (.sipush 255, 3) := by decide +kernel
theorem dJ2_getChar_3b067_52 : decode cJ2_getChar_3b067 52 = .ok (.iand, 1) := by decide +kernel
theorem dJ2_getChar_3b067_53 : decode cJ2_getChar_3b067 53 = .ok (.getstatic 63, 3) := by decide +kernel
theorem dJ2_getChar_3b067_56 : decode cJ2_getChar_3b067 56 = .ok (.ishl, 1) := by decide +kernel
theorem dJ2_getChar_3b067_57 : decode cJ2_getChar_3b067 57 = .ok (.ior, 1) := by decide +kernel
theorem dJ2_getChar_3b067_58 : decode cJ2_getChar_3b067 58 = .ok (.i2c, 1) := by decide +kernel
theorem dJ2_getChar_3b067_59 : decode cJ2_getChar_3b067 59 = .ok (.ireturn, 1) := by decide +kernel
theorem dJ2_length_9d52b_0 : decode cJ2_length_9d52b 0 = .ok (.aload_n 0, 1) := by decide +kernel
theorem dJ2_length_9d52b_1 : decode cJ2_length_9d52b 1 = .ok (.arraylength, 1) := by decide +kernel
theorem dJ2_length_9d52b_2 : decode cJ2_length_9d52b 2 = .ok (.iconst 1, 1) := by decide +kernel
theorem dJ2_length_9d52b_3 : decode cJ2_length_9d52b 3 = .ok (.ishr, 1) := by decide +kernel
theorem dJ2_length_9d52b_4 : decode cJ2_length_9d52b 4 = .ok (.ireturn, 1) := by decide +kernel
theorem dJ2_charAt_3b067_0 : decode cJ2_charAt_3b067 0 = .ok (.iload_n 1, 1) := by decide +kernel
theorem dJ2_charAt_3b067_1 : decode cJ2_charAt_3b067 1 = .ok (.aload_n 0, 1) := by decide +kernel
theorem dJ2_charAt_3b067_2 : decode cJ2_charAt_3b067 2 = .ok (.invokestatic 67, 3) := by decide +kernel
theorem dJ2_charAt_3b067_5 : decode cJ2_charAt_3b067 5 = .ok (.aload_n 0, 1) := by decide +kernel
theorem dJ2_charAt_3b067_6 : decode cJ2_charAt_3b067 6 = .ok (.iload_n 1, 1) := by decide +kernel
theorem dJ2_charAt_3b067_7 : decode cJ2_charAt_3b067 7 = .ok (.invokestatic 71, 3) := by decide +kernel
theorem dJ2_charAt_3b067_10 : decode cJ2_charAt_3b067 10 = .ok (.ireturn, 1) := by decide +kernel
theorem dJ2_checkIndex_2214a_0 : decode cJ2_checkIndex_2214a 0 = .ok (.iload_n 0, 1) := by decide +kernel
theorem dJ2_checkIndex_2214a_1 : decode cJ2_checkIndex_2214a 1 = .ok (.aload_n 1, 1) := by decide +kernel
theorem dJ2_checkIndex_2214a_2 : decode cJ2_checkIndex_2214a 2 = .ok (.invokestatic 48, 3) := by decide +kernel
theorem dJ2_checkIndex_2214a_5 : decode cJ2_checkIndex_2214a 5 = .ok (.invokestatic 414, 3) := by decide +kernel
theorem dJ2_checkIndex_2214a_8 : decode cJ2_checkIndex_2214a 8 = .ok (.return_, 1) := by decide +kernel
theorem dJ3_checkIndex_8e157_0 : decode cJ3_checkIndex_8e157 0 = .ok (.iload_n 0, 1) := by decide +kernel
theorem dJ3_checkIndex_8e157_1 : decode cJ3_checkIndex_8e157 1 = .ok (.ifCond .lt 8, 3) := by decide +kernel
theorem dJ3_checkIndex_8e157_4 : decode cJ3_checkIndex_8e157 4 = .ok (.iload_n 0, 1) := by decide +kernel
theorem dJ3_checkIndex_8e157_5 : decode cJ3_checkIndex_8e157 5 = .ok (.iload_n 1, 1) := by decide +kernel
theorem dJ3_checkIndex_8e157_6 : decode cJ3_checkIndex_8e157 6 = .ok (.if_icmp .lt 10, 3) := by decide +kernel
theorem dJ3_checkIndex_8e157_9 : decode cJ3_checkIndex_8e157 9 = .ok (.aload_n 2, 1) := by decide +kernel
theorem dJ3_checkIndex_8e157_10 : decode cJ3_checkIndex_8e157 10 = .ok (.iload_n 0, 1) := by decide +kernel
theorem dJ3_checkIndex_8e157_11 : decode cJ3_checkIndex_8e157 11 = .ok (.iload_n 1, 1) := by decide +kernel
theorem dJ3_checkIndex_8e157_12 : decode cJ3_checkIndex_8e157 12 = .ok (.invokestatic 95, 3) := by decide +kernel
theorem dJ3_checkIndex_8e157_15 : decode cJ3_checkIndex_8e157 15 = .ok (.athrow, 1) := by decide +kernel
theorem dJ3_checkIndex_8e157_16 : decode cJ3_checkIndex_8e157 16 = .ok (.iload_n 0, 1) := by decide +kernel
theorem dJ3_checkIndex_8e157_17 : decode cJ3_checkIndex_8e157 17 = .ok (.ireturn, 1) := by decide +kernel
theorem dL_name_0 : decode cL_name 0 = .ok (.aload_n 3, 1) := by decide +kernel
theorem dL_name_1 : decode cL_name 1 = .ok (.iconst 0, 1) := by decide +kernel
theorem dL_name_2 : decode cL_name 2 = .ok (.aload_n 0, 1) := by decide +kernel
theorem dL_name_3 : decode cL_name 3 = .ok (.iload_n 1, 1) := by decide +kernel
theorem dL_name_4 : decode cL_name 4 = .ok (.iload_n 2, 1) := by decide +kernel
theorem dL_name_5 : decode cL_name 5 = .ok (.invokevirtual 7, 3) := by decide +kernel
theorem dL_name_8 : decode cL_name 8 = .ok (.i2l, 1) := by decide +kernel
theorem dL_name_9 : decode cL_name 9 = .ok (.lastore, 1) := by decide +kernel
theorem dL_name_10 : decode cL_name 10 = .ok (.goto 7, 3) := by decide +kernel
theorem dL_name_13 : decode cL_name 13 = .ok (.astore 4, 2) := by decide +kernel
theorem dL_name_15 : decode cL_name 15 = .ok (.iconst 1, 1) := by decide +kernel
theorem dL_name_16 : decode cL_name 16 = .ok (.ireturn, 1) := by decide +kernel
theorem dL_name_17 : decode cL_name 17 = .ok (.iconst 0, 1) := by decide +kernel
theorem dL_name_18 : decode cL_name 18 = .ok (.ireturn, 1) := by decide +kernel
theorem dL_said_0 : decode cL_said 0 = .ok (.aload_n 2, 1) := by decide +kernel
theorem dL_said_1 : decode cL_said 1 = .ok (.iconst 0, 1) := by decide +kernel
theorem dL_said_2 : decode cL_said 2 = .ok (.aload_n 0, 1) := by decide +kernel
theorem dL_said_3 : decode cL_said 3 = .ok (.iload_n 1, 1) := by decide +kernel
theorem dL_said_4 : decode cL_said 4 = .ok (.invokevirtual 15, 3) := by decide +kernel
theorem dL_said_7 : decode cL_said 7 = .ok (.i2l, 1) := by decide +kernel
theorem dL_said_8 : decode cL_said 8 = .ok (.lastore, 1) := by decide +kernel
theorem dL_said_9 : decode cL_said 9 = .ok (.goto 6, 3) := by decide +kernel
theorem dL_said_12 : decode cL_said 12 = .ok (.astore_n 3, 1) := by decide +kernel
theorem dL_said_13 : decode cL_said 13 = .ok (.iconst 1, 1) := by decide +kernel
theorem dL_said_14 : decode cL_said 14 = .ok (.ireturn, 1) := by decide +kernel
theorem dL_said_15 : decode cL_said 15 = .ok (.iconst 0, 1) := by decide +kernel
theorem dL_said_16 : decode cL_said 16 = .ok (.ireturn, 1) := by decide +kernel
theorem dL_trace_0 : decode cL_trace 0 = .ok (.aload_n 3, 1) := by decide +kernel
theorem dL_trace_1 : decode cL_trace 1 = .ok (.iconst 0, 1) := by decide +kernel
theorem dL_trace_2 : decode cL_trace 2 = .ok (.aload_n 0, 1) := by decide +kernel
theorem dL_trace_3 : decode cL_trace 3 = .ok (.iload_n 1, 1) := by decide +kernel
theorem dL_trace_4 : decode cL_trace 4 = .ok (.iload_n 2, 1) := by decide +kernel
theorem dL_trace_5 : decode cL_trace 5 = .ok (.invokevirtual 19, 3) := by decide +kernel
theorem dL_trace_8 : decode cL_trace 8 = .ok (.i2l, 1) := by decide +kernel
theorem dL_trace_9 : decode cL_trace 9 = .ok (.lastore, 1) := by decide +kernel
theorem dL_trace_10 : decode cL_trace 10 = .ok (.goto 7, 3) := by decide +kernel
theorem dL_trace_13 : decode cL_trace 13 = .ok (.astore 4, 2) := by decide +kernel
theorem dL_trace_15 : decode cL_trace 15 = .ok (.iconst 1, 1) := by decide +kernel
theorem dL_trace_16 : decode cL_trace 16 = .ok (.ireturn, 1) := by decide +kernel
theorem dL_trace_17 : decode cL_trace 17 = .ok (.iconst 0, 1) := by decide +kernel
theorem dL_trace_18 : decode cL_trace 18 = .ok (.ireturn, 1) := by decide +kernel
theorem dL_law_0 : decode cL_law 0 = .ok (.new 8, 3) := by decide +kernel
theorem dL_law_3 : decode cL_law 3 = .ok (.dup, 1) := by decide +kernel
theorem dL_law_4 : decode cL_law 4 = .ok (.invokespecial 22, 3) := by decide +kernel
theorem dL_law_7 : decode cL_law 7 = .ok (.astore_n 1, 1) := by decide +kernel
theorem dL_law_8 : decode cL_law 8 = .ok (.new 23, 3) := by decide +kernel
theorem dL_law_11 : decode cL_law 11 = .ok (.dup, 1) := by decide +kernel
theorem dL_law_12 : decode cL_law 12 = .ok (.invokespecial 25, 3) := by decide +kernel
theorem dL_law_15 : decode cL_law 15 = .ok (.astore_n 2, 1) := by decide +kernel
theorem dL_law_16 : decode cL_law 16 = .ok (.iconst 1, 1) := by decide +kernel
theorem dL_law_17 : decode cL_law 17 = .ok (.newarray .long, 2) := by decide +kernel
theorem dL_law_19 : decode cL_law 19 = .ok (.astore_n 3, 1) := by decide +kernel
theorem dL_law_20 : decode cL_law 20 = .ok (.iconst 0, 1) := by decide +kernel
theorem dL_law_21 : decode cL_law 21 = .ok (.istore 4, 2) := by decide +kernel
theorem dL_law_23 : decode cL_law 23 = .ok (.iload 4, 2) := by decide +kernel
theorem dL_law_25 : decode cL_law 25 = .ok (.aload_n 0, 1) := by decide +kernel
theorem dL_law_26 : decode cL_law 26 = .ok (.arraylength, 1) := by decide +kernel
theorem dL_law_27 : decode cL_law 27 = .ok (.bipush 6, 2) := by decide +kernel
theorem dL_law_29 : decode cL_law 29 = .ok (.isub, 1) := by decide +kernel
theorem dL_law_30 : decode cL_law 30 = .ok (.if_icmp .gt 946, 3) := by decide +kernel
theorem dL_law_33 : decode cL_law 33 = .ok (.aload_n 0, 1) := by decide +kernel
theorem dL_law_34 : decode cL_law 34 = .ok (.iload 4, 2) := by decide +kernel
theorem dL_law_36 : decode cL_law 36 = .ok (.iaload, 1) := by decide +kernel
theorem dL_law_37 : decode cL_law 37 = .ok (.bipush 31, 2) := by decide +kernel
theorem dL_law_39 : decode cL_law 39 = .ok (.iand, 1) := by decide +kernel
theorem dL_law_40 : decode cL_law 40 = .ok (.tableswitch 930 0 24 #[116, 189, 214, 227, 240, 277, 317, 354, 427, 452, 480, 520, 545, 570, 643, 704, 717, 742, 803, 816, 829, 854, 879, 892, 917], 116) := by decide +kernel
theorem dL_law_156 : decode cL_law 156 = .ok (.aload_n 1, 1) := by decide +kernel
theorem dL_law_157 : decode cL_law 157 = .ok (.aload_n 0, 1) := by decide +kernel
theorem dL_law_158 : decode cL_law 158 = .ok (.iload 4, 2) := by decide +kernel
theorem dL_law_160 : decode cL_law 160 = .ok (.iconst 1, 1) := by decide +kernel
theorem dL_law_161 : decode cL_law 161 = .ok (.iadd, 1) := by decide +kernel
theorem dL_law_162 : decode cL_law 162 = .ok (.iaload, 1) := by decide +kernel
theorem dL_law_163 : decode cL_law 163 = .ok (.aload_n 0, 1) := by decide +kernel
theorem dL_law_164 : decode cL_law 164 = .ok (.iload 4, 2) := by decide +kernel
theorem dL_law_166 : decode cL_law 166 = .ok (.iconst 2, 1) := by decide +kernel
theorem dL_law_167 : decode cL_law 167 = .ok (.iadd, 1) := by decide +kernel
theorem dL_law_168 : decode cL_law 168 = .ok (.iaload, 1) := by decide +kernel
theorem dL_law_169 : decode cL_law 169 = .ok (.aload_n 0, 1) := by decide +kernel
theorem dL_law_170 : decode cL_law 170 = .ok (.iload 4, 2) := by decide +kernel
theorem dL_law_172 : decode cL_law 172 = .ok (.iconst 3, 1) := by decide +kernel
theorem dL_law_173 : decode cL_law 173 = .ok (.iadd, 1) := by decide +kernel
theorem dL_law_174 : decode cL_law 174 = .ok (.iaload, 1) := by decide +kernel
theorem dL_law_175 : decode cL_law 175 = .ok (.aload_n 0, 1) := by decide +kernel
theorem dL_law_176 : decode cL_law 176 = .ok (.iload 4, 2) := by decide +kernel
theorem dL_law_178 : decode cL_law 178 = .ok (.iconst 4, 1) := by decide +kernel
theorem dL_law_179 : decode cL_law 179 = .ok (.iadd, 1) := by decide +kernel
theorem dL_law_180 : decode cL_law 180 = .ok (.iaload, 1) := by decide +kernel
theorem dL_law_181 : decode cL_law 181 = .ok (.aload_n 0, 1) := by decide +kernel
theorem dL_law_182 : decode cL_law 182 = .ok (.iload 4, 2) := by decide +kernel
theorem dL_law_184 : decode cL_law 184 = .ok (.iconst 5, 1) := by decide +kernel
theorem dL_law_185 : decode cL_law 185 = .ok (.iadd, 1) := by decide +kernel
theorem dL_law_186 : decode cL_law 186 = .ok (.iaload, 1) := by decide +kernel
theorem dL_law_187 : decode cL_law 187 = .ok (.invokevirtual 26, 3) := by decide +kernel
theorem dL_law_190 : decode cL_law 190 = .ok (.pop, 1) := by decide +kernel
theorem dL_law_191 : decode cL_law 191 = .ok (.aload_n 2, 1) := by decide +kernel
theorem dL_law_192 : decode cL_law 192 = .ok (.aload_n 0, 1) := by decide +kernel
theorem dL_law_193 : decode cL_law 193 = .ok (.iload 4, 2) := by decide +kernel
theorem dL_law_195 : decode cL_law 195 = .ok (.iconst 1, 1) := by decide +kernel
theorem dL_law_196 : decode cL_law 196 = .ok (.iadd, 1) := by decide +kernel
theorem dL_law_197 : decode cL_law 197 = .ok (.iaload, 1) := by decide +kernel
theorem dL_law_198 : decode cL_law 198 = .ok (.aload_n 0, 1) := by decide +kernel
theorem dL_law_199 : decode cL_law 199 = .ok (.iload 4, 2) := by decide +kernel
theorem dL_law_201 : decode cL_law 201 = .ok (.iconst 2, 1) := by decide +kernel
theorem dL_law_202 : decode cL_law 202 = .ok (.iadd, 1) := by decide +kernel
theorem dL_law_203 : decode cL_law 203 = .ok (.iaload, 1) := by decide +kernel
theorem dL_law_204 : decode cL_law 204 = .ok (.aload_n 0, 1) := by decide +kernel
theorem dL_law_205 : decode cL_law 205 = .ok (.iload 4, 2) := by decide +kernel
theorem dL_law_207 : decode cL_law 207 = .ok (.iconst 3, 1) := by decide +kernel
theorem dL_law_208 : decode cL_law 208 = .ok (.iadd, 1) := by decide +kernel
theorem dL_law_209 : decode cL_law 209 = .ok (.iaload, 1) := by decide +kernel
theorem dL_law_210 : decode cL_law 210 = .ok (.aload_n 0, 1) := by decide +kernel
theorem dL_law_211 : decode cL_law 211 = .ok (.iload 4, 2) := by decide +kernel
theorem dL_law_213 : decode cL_law 213 = .ok (.iconst 4, 1) := by decide +kernel
theorem dL_law_214 : decode cL_law 214 = .ok (.iadd, 1) := by decide +kernel
theorem dL_law_215 : decode cL_law 215 = .ok (.iaload, 1) := by decide +kernel
theorem dL_law_216 : decode cL_law 216 = .ok (.aload_n 0, 1) := by decide +kernel
theorem dL_law_217 : decode cL_law 217 = .ok (.iload 4, 2) := by decide +kernel
theorem dL_law_219 : decode cL_law 219 = .ok (.iconst 5, 1) := by decide +kernel
theorem dL_law_220 : decode cL_law 220 = .ok (.iadd, 1) := by decide +kernel
theorem dL_law_221 : decode cL_law 221 = .ok (.iaload, 1) := by decide +kernel
theorem dL_law_222 : decode cL_law 222 = .ok (.invokevirtual 30, 3) := by decide +kernel
theorem dL_law_225 : decode cL_law 225 = .ok (.pop, 1) := by decide +kernel
theorem dL_law_226 : decode cL_law 226 = .ok (.goto 744, 3) := by decide +kernel
theorem dL_law_229 : decode cL_law 229 = .ok (.aload_n 1, 1) := by decide +kernel
theorem dL_law_230 : decode cL_law 230 = .ok (.aload_n 0, 1) := by decide +kernel
theorem dL_law_231 : decode cL_law 231 = .ok (.iload 4, 2) := by decide +kernel
theorem dL_law_233 : decode cL_law 233 = .ok (.iconst 1, 1) := by decide +kernel
theorem dL_law_234 : decode cL_law 234 = .ok (.iadd, 1) := by decide +kernel
theorem dL_law_235 : decode cL_law 235 = .ok (.iaload, 1) := by decide +kernel
theorem dL_law_236 : decode cL_law 236 = .ok (.invokevirtual 31, 3) := by decide +kernel
theorem dL_law_239 : decode cL_law 239 = .ok (.pop, 1) := by decide +kernel
theorem dL_law_240 : decode cL_law 240 = .ok (.aload_n 2, 1) := by decide +kernel
theorem dL_law_241 : decode cL_law 241 = .ok (.aload_n 0, 1) := by decide +kernel
theorem dL_law_242 : decode cL_law 242 = .ok (.iload 4, 2) := by decide +kernel
theorem dL_law_244 : decode cL_law 244 = .ok (.iconst 1, 1) := by decide +kernel
theorem dL_law_245 : decode cL_law 245 = .ok (.iadd, 1) := by decide +kernel
theorem dL_law_246 : decode cL_law 246 = .ok (.iaload, 1) := by decide +kernel
theorem dL_law_247 : decode cL_law 247 = .ok (.invokevirtual 34, 3) := by decide +kernel
theorem dL_law_250 : decode cL_law 250 = .ok (.pop, 1) := by decide +kernel
theorem dL_law_251 : decode cL_law 251 = .ok (.goto 719, 3) := by decide +kernel
theorem dL_law_254 : decode cL_law 254 = .ok (.aload_n 1, 1) := by decide +kernel
theorem dL_law_255 : decode cL_law 255 = .ok (.invokevirtual 35, 3) := by decide +kernel
theorem dL_law_258 : decode cL_law 258 = .ok (.pop, 1) := by decide +kernel
theorem dL_law_259 : decode cL_law 259 = .ok (.aload_n 2, 1) := by decide +kernel
theorem dL_law_260 : decode cL_law 260 = .ok (.invokevirtual 39, 3) := by decide +kernel
theorem dL_law_263 : decode cL_law 263 = .ok (.pop, 1) := by decide +kernel
theorem dL_law_264 : decode cL_law 264 = .ok (.goto 706, 3) := by decide +kernel
theorem dL_law_267 : decode cL_law 267 = .ok (.aload_n 1, 1) := by decide +kernel
theorem dL_law_268 : decode cL_law 268 = .ok (.invokevirtual 40, 3) := by decide +kernel
theorem dL_law_271 : decode cL_law 271 = .ok (.pop, 1) := by decide +kernel
theorem dL_law_272 : decode cL_law 272 = .ok (.aload_n 2, 1) := by decide +kernel
theorem dL_law_273 : decode cL_law 273 = .ok (.invokevirtual 43, 3) := by decide +kernel
theorem dL_law_276 : decode cL_law 276 = .ok (.pop, 1) := by decide +kernel
theorem dL_law_277 : decode cL_law 277 = .ok (.goto 693, 3) := by decide +kernel
theorem dL_law_280 : decode cL_law 280 = .ok (.aload_n 1, 1) := by decide +kernel
theorem dL_law_281 : decode cL_law 281 = .ok (.aload_n 0, 1) := by decide +kernel
theorem dL_law_282 : decode cL_law 282 = .ok (.iload 4, 2) := by decide +kernel
theorem dL_law_284 : decode cL_law 284 = .ok (.iconst 1, 1) := by decide +kernel
theorem dL_law_285 : decode cL_law 285 = .ok (.iadd, 1) := by decide +kernel
theorem dL_law_286 : decode cL_law 286 = .ok (.iaload, 1) := by decide +kernel
theorem dL_law_287 : decode cL_law 287 = .ok (.aload_n 0, 1) := by decide +kernel
theorem dL_law_288 : decode cL_law 288 = .ok (.iload 4, 2) := by decide +kernel
theorem dL_law_290 : decode cL_law 290 = .ok (.iconst 2, 1) := by decide +kernel
theorem dL_law_291 : decode cL_law 291 = .ok (.iadd, 1) := by decide +kernel
theorem dL_law_292 : decode cL_law 292 = .ok (.iaload, 1) := by decide +kernel
theorem dL_law_293 : decode cL_law 293 = .ok (.invokevirtual 44, 3) := by decide +kernel
theorem dL_law_296 : decode cL_law 296 = .ok (.pop, 1) := by decide +kernel
theorem dL_law_297 : decode cL_law 297 = .ok (.aload_n 2, 1) := by decide +kernel
theorem dL_law_298 : decode cL_law 298 = .ok (.aload_n 0, 1) := by decide +kernel
theorem dL_law_299 : decode cL_law 299 = .ok (.iload 4, 2) := by decide +kernel
theorem dL_law_301 : decode cL_law 301 = .ok (.iconst 1, 1) := by decide +kernel
theorem dL_law_302 : decode cL_law 302 = .ok (.iadd, 1) := by decide +kernel
theorem dL_law_303 : decode cL_law 303 = .ok (.iaload, 1) := by decide +kernel
theorem dL_law_304 : decode cL_law 304 = .ok (.aload_n 0, 1) := by decide +kernel
theorem dL_law_305 : decode cL_law 305 = .ok (.iload 4, 2) := by decide +kernel
theorem dL_law_307 : decode cL_law 307 = .ok (.iconst 2, 1) := by decide +kernel
theorem dL_law_308 : decode cL_law 308 = .ok (.iadd, 1) := by decide +kernel
theorem dL_law_309 : decode cL_law 309 = .ok (.iaload, 1) := by decide +kernel
theorem dL_law_310 : decode cL_law 310 = .ok (.invokevirtual 47, 3) := by decide +kernel
theorem dL_law_313 : decode cL_law 313 = .ok (.pop, 1) := by decide +kernel
theorem dL_law_314 : decode cL_law 314 = .ok (.goto 656, 3) := by decide +kernel
theorem dL_law_317 : decode cL_law 317 = .ok (.aload_n 1, 1) := by decide +kernel
theorem dL_law_318 : decode cL_law 318 = .ok (.aload_n 0, 1) := by decide +kernel
theorem dL_law_319 : decode cL_law 319 = .ok (.iload 4, 2) := by decide +kernel
theorem dL_law_321 : decode cL_law 321 = .ok (.iconst 1, 1) := by decide +kernel
theorem dL_law_322 : decode cL_law 322 = .ok (.iadd, 1) := by decide +kernel
theorem dL_law_323 : decode cL_law 323 = .ok (.iaload, 1) := by decide +kernel
theorem dL_law_324 : decode cL_law 324 = .ok (.aload_n 0, 1) := by decide +kernel
theorem dL_law_325 : decode cL_law 325 = .ok (.iload 4, 2) := by decide +kernel
theorem dL_law_327 : decode cL_law 327 = .ok (.iconst 2, 1) := by decide +kernel
theorem dL_law_328 : decode cL_law 328 = .ok (.iadd, 1) := by decide +kernel
theorem dL_law_329 : decode cL_law 329 = .ok (.iaload, 1) := by decide +kernel
theorem dL_law_330 : decode cL_law 330 = .ok (.aload_n 3, 1) := by decide +kernel
theorem dL_law_331 : decode cL_law 331 = .ok (.invokestatic 48, 3) := by decide +kernel
theorem dL_law_334 : decode cL_law 334 = .ok (.istore 5, 2) := by decide +kernel
theorem dL_law_336 : decode cL_law 336 = .ok (.aload_n 2, 1) := by decide +kernel
theorem dL_law_337 : decode cL_law 337 = .ok (.aload_n 0, 1) := by decide +kernel
theorem dL_law_338 : decode cL_law 338 = .ok (.iload 4, 2) := by decide +kernel
theorem dL_law_340 : decode cL_law 340 = .ok (.iconst 1, 1) := by decide +kernel
theorem dL_law_341 : decode cL_law 341 = .ok (.iadd, 1) := by decide +kernel
theorem dL_law_342 : decode cL_law 342 = .ok (.iaload, 1) := by decide +kernel
theorem dL_law_343 : decode cL_law 343 = .ok (.aload_n 0, 1) := by decide +kernel
theorem dL_law_344 : decode cL_law 344 = .ok (.iload 4, 2) := by decide +kernel
theorem dL_law_346 : decode cL_law 346 = .ok (.iconst 2, 1) := by decide +kernel
theorem dL_law_347 : decode cL_law 347 = .ok (.iadd, 1) := by decide +kernel
theorem dL_law_348 : decode cL_law 348 = .ok (.iaload, 1) := by decide +kernel
theorem dL_law_349 : decode cL_law 349 = .ok (.invokevirtual 53, 3) := by decide +kernel
theorem dL_law_352 : decode cL_law 352 = .ok (.istore 6, 2) := by decide +kernel
theorem dL_law_354 : decode cL_law 354 = .ok (.goto 616, 3) := by decide +kernel
theorem dL_law_357 : decode cL_law 357 = .ok (.aload_n 1, 1) := by decide +kernel
theorem dL_law_358 : decode cL_law 358 = .ok (.aload_n 0, 1) := by decide +kernel
theorem dL_law_359 : decode cL_law 359 = .ok (.iload 4, 2) := by decide +kernel
theorem dL_law_361 : decode cL_law 361 = .ok (.iconst 1, 1) := by decide +kernel
theorem dL_law_362 : decode cL_law 362 = .ok (.iadd, 1) := by decide +kernel
theorem dL_law_363 : decode cL_law 363 = .ok (.iaload, 1) := by decide +kernel
theorem dL_law_364 : decode cL_law 364 = .ok (.aload_n 0, 1) := by decide +kernel
theorem dL_law_365 : decode cL_law 365 = .ok (.iload 4, 2) := by decide +kernel
theorem dL_law_367 : decode cL_law 367 = .ok (.iconst 2, 1) := by decide +kernel
theorem dL_law_368 : decode cL_law 368 = .ok (.iadd, 1) := by decide +kernel
theorem dL_law_369 : decode cL_law 369 = .ok (.iaload, 1) := by decide +kernel
theorem dL_law_370 : decode cL_law 370 = .ok (.invokevirtual 54, 3) := by decide +kernel
theorem dL_law_373 : decode cL_law 373 = .ok (.pop, 1) := by decide +kernel
theorem dL_law_374 : decode cL_law 374 = .ok (.aload_n 2, 1) := by decide +kernel
theorem dL_law_375 : decode cL_law 375 = .ok (.aload_n 0, 1) := by decide +kernel
theorem dL_law_376 : decode cL_law 376 = .ok (.iload 4, 2) := by decide +kernel
theorem dL_law_378 : decode cL_law 378 = .ok (.iconst 1, 1) := by decide +kernel
theorem dL_law_379 : decode cL_law 379 = .ok (.iadd, 1) := by decide +kernel
theorem dL_law_380 : decode cL_law 380 = .ok (.iaload, 1) := by decide +kernel
theorem dL_law_381 : decode cL_law 381 = .ok (.aload_n 0, 1) := by decide +kernel
theorem dL_law_382 : decode cL_law 382 = .ok (.iload 4, 2) := by decide +kernel
theorem dL_law_384 : decode cL_law 384 = .ok (.iconst 2, 1) := by decide +kernel
theorem dL_law_385 : decode cL_law 385 = .ok (.iadd, 1) := by decide +kernel
theorem dL_law_386 : decode cL_law 386 = .ok (.iaload, 1) := by decide +kernel
theorem dL_law_387 : decode cL_law 387 = .ok (.invokevirtual 57, 3) := by decide +kernel
theorem dL_law_390 : decode cL_law 390 = .ok (.pop, 1) := by decide +kernel
theorem dL_law_391 : decode cL_law 391 = .ok (.goto 579, 3) := by decide +kernel
theorem dL_law_394 : decode cL_law 394 = .ok (.aload_n 1, 1) := by decide +kernel
theorem dL_law_395 : decode cL_law 395 = .ok (.aload_n 0, 1) := by decide +kernel
theorem dL_law_396 : decode cL_law 396 = .ok (.iload 4, 2) := by decide +kernel
theorem dL_law_398 : decode cL_law 398 = .ok (.iconst 1, 1) := by decide +kernel
theorem dL_law_399 : decode cL_law 399 = .ok (.iadd, 1) := by decide +kernel
theorem dL_law_400 : decode cL_law 400 = .ok (.iaload, 1) := by decide +kernel
theorem dL_law_401 : decode cL_law 401 = .ok (.aload_n 0, 1) := by decide +kernel
theorem dL_law_402 : decode cL_law 402 = .ok (.iload 4, 2) := by decide +kernel
theorem dL_law_404 : decode cL_law 404 = .ok (.iconst 2, 1) := by decide +kernel
theorem dL_law_405 : decode cL_law 405 = .ok (.iadd, 1) := by decide +kernel
theorem dL_law_406 : decode cL_law 406 = .ok (.iaload, 1) := by decide +kernel
theorem dL_law_407 : decode cL_law 407 = .ok (.aload_n 0, 1) := by decide +kernel
theorem dL_law_408 : decode cL_law 408 = .ok (.iload 4, 2) := by decide +kernel
theorem dL_law_410 : decode cL_law 410 = .ok (.iconst 3, 1) := by decide +kernel
theorem dL_law_411 : decode cL_law 411 = .ok (.iadd, 1) := by decide +kernel
theorem dL_law_412 : decode cL_law 412 = .ok (.iaload, 1) := by decide +kernel
theorem dL_law_413 : decode cL_law 413 = .ok (.aload_n 0, 1) := by decide +kernel
theorem dL_law_414 : decode cL_law 414 = .ok (.iload 4, 2) := by decide +kernel
theorem dL_law_416 : decode cL_law 416 = .ok (.iconst 4, 1) := by decide +kernel
theorem dL_law_417 : decode cL_law 417 = .ok (.iadd, 1) := by decide +kernel
theorem dL_law_418 : decode cL_law 418 = .ok (.iaload, 1) := by decide +kernel
theorem dL_law_419 : decode cL_law 419 = .ok (.aload_n 0, 1) := by decide +kernel
theorem dL_law_420 : decode cL_law 420 = .ok (.iload 4, 2) := by decide +kernel
theorem dL_law_422 : decode cL_law 422 = .ok (.iconst 5, 1) := by decide +kernel
theorem dL_law_423 : decode cL_law 423 = .ok (.iadd, 1) := by decide +kernel
theorem dL_law_424 : decode cL_law 424 = .ok (.iaload, 1) := by decide +kernel
theorem dL_law_425 : decode cL_law 425 = .ok (.invokevirtual 58, 3) := by decide +kernel
theorem dL_law_428 : decode cL_law 428 = .ok (.pop, 1) := by decide +kernel
theorem dL_law_429 : decode cL_law 429 = .ok (.aload_n 2, 1) := by decide +kernel
theorem dL_law_430 : decode cL_law 430 = .ok (.aload_n 0, 1) := by decide +kernel
theorem dL_law_431 : decode cL_law 431 = .ok (.iload 4, 2) := by decide +kernel
theorem dL_law_433 : decode cL_law 433 = .ok (.iconst 1, 1) := by decide +kernel
theorem dL_law_434 : decode cL_law 434 = .ok (.iadd, 1) := by decide +kernel
theorem dL_law_435 : decode cL_law 435 = .ok (.iaload, 1) := by decide +kernel
theorem dL_law_436 : decode cL_law 436 = .ok (.aload_n 0, 1) := by decide +kernel
theorem dL_law_437 : decode cL_law 437 = .ok (.iload 4, 2) := by decide +kernel
theorem dL_law_439 : decode cL_law 439 = .ok (.iconst 2, 1) := by decide +kernel
theorem dL_law_440 : decode cL_law 440 = .ok (.iadd, 1) := by decide +kernel
theorem dL_law_441 : decode cL_law 441 = .ok (.iaload, 1) := by decide +kernel
theorem dL_law_442 : decode cL_law 442 = .ok (.aload_n 0, 1) := by decide +kernel
theorem dL_law_443 : decode cL_law 443 = .ok (.iload 4, 2) := by decide +kernel
theorem dL_law_445 : decode cL_law 445 = .ok (.iconst 3, 1) := by decide +kernel
theorem dL_law_446 : decode cL_law 446 = .ok (.iadd, 1) := by decide +kernel
theorem dL_law_447 : decode cL_law 447 = .ok (.iaload, 1) := by decide +kernel
theorem dL_law_448 : decode cL_law 448 = .ok (.aload_n 0, 1) := by decide +kernel
theorem dL_law_449 : decode cL_law 449 = .ok (.iload 4, 2) := by decide +kernel
theorem dL_law_451 : decode cL_law 451 = .ok (.iconst 4, 1) := by decide +kernel
theorem dL_law_452 : decode cL_law 452 = .ok (.iadd, 1) := by decide +kernel
theorem dL_law_453 : decode cL_law 453 = .ok (.iaload, 1) := by decide +kernel
theorem dL_law_454 : decode cL_law 454 = .ok (.aload_n 0, 1) := by decide +kernel
theorem dL_law_455 : decode cL_law 455 = .ok (.iload 4, 2) := by decide +kernel
theorem dL_law_457 : decode cL_law 457 = .ok (.iconst 5, 1) := by decide +kernel
theorem dL_law_458 : decode cL_law 458 = .ok (.iadd, 1) := by decide +kernel
theorem dL_law_459 : decode cL_law 459 = .ok (.iaload, 1) := by decide +kernel
theorem dL_law_460 : decode cL_law 460 = .ok (.invokevirtual 61, 3) := by decide +kernel
theorem dL_law_463 : decode cL_law 463 = .ok (.pop, 1) := by decide +kernel
theorem dL_law_464 : decode cL_law 464 = .ok (.goto 506, 3) := by decide +kernel
theorem dL_law_467 : decode cL_law 467 = .ok (.aload_n 1, 1) := by decide +kernel
theorem dL_law_468 : decode cL_law 468 = .ok (.aload_n 0, 1) := by decide +kernel
theorem dL_law_469 : decode cL_law 469 = .ok (.iload 4, 2) := by decide +kernel
theorem dL_law_471 : decode cL_law 471 = .ok (.iconst 1, 1) := by decide +kernel
theorem dL_law_472 : decode cL_law 472 = .ok (.iadd, 1) := by decide +kernel
theorem dL_law_473 : decode cL_law 473 = .ok (.iaload, 1) := by decide +kernel
theorem dL_law_474 : decode cL_law 474 = .ok (.invokevirtual 62, 3) := by decide +kernel
theorem dL_law_477 : decode cL_law 477 = .ok (.pop, 1) := by decide +kernel
theorem dL_law_478 : decode cL_law 478 = .ok (.aload_n 2, 1) := by decide +kernel
theorem dL_law_479 : decode cL_law 479 = .ok (.aload_n 0, 1) := by decide +kernel
theorem dL_law_480 : decode cL_law 480 = .ok (.iload 4, 2) := by decide +kernel
theorem dL_law_482 : decode cL_law 482 = .ok (.iconst 1, 1) := by decide +kernel
theorem dL_law_483 : decode cL_law 483 = .ok (.iadd, 1) := by decide +kernel
theorem dL_law_484 : decode cL_law 484 = .ok (.iaload, 1) := by decide +kernel
theorem dL_law_485 : decode cL_law 485 = .ok (.invokevirtual 65, 3) := by decide +kernel
theorem dL_law_488 : decode cL_law 488 = .ok (.pop, 1) := by decide +kernel
theorem dL_law_489 : decode cL_law 489 = .ok (.goto 481, 3) := by decide +kernel
theorem dL_law_492 : decode cL_law 492 = .ok (.aload_n 1, 1) := by decide +kernel
theorem dL_law_493 : decode cL_law 493 = .ok (.aload_n 0, 1) := by decide +kernel
theorem dL_law_494 : decode cL_law 494 = .ok (.iload 4, 2) := by decide +kernel
theorem dL_law_496 : decode cL_law 496 = .ok (.iconst 1, 1) := by decide +kernel
theorem dL_law_497 : decode cL_law 497 = .ok (.iadd, 1) := by decide +kernel
theorem dL_law_498 : decode cL_law 498 = .ok (.iaload, 1) := by decide +kernel
theorem dL_law_499 : decode cL_law 499 = .ok (.aload_n 3, 1) := by decide +kernel
theorem dL_law_500 : decode cL_law 500 = .ok (.invokestatic 66, 3) := by decide +kernel
theorem dL_law_503 : decode cL_law 503 = .ok (.istore 5, 2) := by decide +kernel
theorem dL_law_505 : decode cL_law 505 = .ok (.aload_n 2, 1) := by decide +kernel
theorem dL_law_506 : decode cL_law 506 = .ok (.aload_n 0, 1) := by decide +kernel
theorem dL_law_507 : decode cL_law 507 = .ok (.iload 4, 2) := by decide +kernel
theorem dL_law_509 : decode cL_law 509 = .ok (.iconst 1, 1) := by decide +kernel
theorem dL_law_510 : decode cL_law 510 = .ok (.iadd, 1) := by decide +kernel
theorem dL_law_511 : decode cL_law 511 = .ok (.iaload, 1) := by decide +kernel
theorem dL_law_512 : decode cL_law 512 = .ok (.invokevirtual 69, 3) := by decide +kernel
theorem dL_law_515 : decode cL_law 515 = .ok (.istore 6, 2) := by decide +kernel
theorem dL_law_517 : decode cL_law 517 = .ok (.goto 453, 3) := by decide +kernel
theorem dL_law_520 : decode cL_law 520 = .ok (.aload_n 1, 1) := by decide +kernel
theorem dL_law_521 : decode cL_law 521 = .ok (.aload_n 0, 1) := by decide +kernel
theorem dL_law_522 : decode cL_law 522 = .ok (.iload 4, 2) := by decide +kernel
theorem dL_law_524 : decode cL_law 524 = .ok (.iconst 1, 1) := by decide +kernel
theorem dL_law_525 : decode cL_law 525 = .ok (.iadd, 1) := by decide +kernel
theorem dL_law_526 : decode cL_law 526 = .ok (.iaload, 1) := by decide +kernel
theorem dL_law_527 : decode cL_law 527 = .ok (.aload_n 0, 1) := by decide +kernel
theorem dL_law_528 : decode cL_law 528 = .ok (.iload 4, 2) := by decide +kernel
theorem dL_law_530 : decode cL_law 530 = .ok (.iconst 2, 1) := by decide +kernel
theorem dL_law_531 : decode cL_law 531 = .ok (.iadd, 1) := by decide +kernel
theorem dL_law_532 : decode cL_law 532 = .ok (.iaload, 1) := by decide +kernel
theorem dL_law_533 : decode cL_law 533 = .ok (.aload_n 3, 1) := by decide +kernel
theorem dL_law_534 : decode cL_law 534 = .ok (.invokestatic 70, 3) := by decide +kernel
theorem dL_law_537 : decode cL_law 537 = .ok (.istore 5, 2) := by decide +kernel
theorem dL_law_539 : decode cL_law 539 = .ok (.aload_n 2, 1) := by decide +kernel
theorem dL_law_540 : decode cL_law 540 = .ok (.aload_n 0, 1) := by decide +kernel
theorem dL_law_541 : decode cL_law 541 = .ok (.iload 4, 2) := by decide +kernel
theorem dL_law_543 : decode cL_law 543 = .ok (.iconst 1, 1) := by decide +kernel
theorem dL_law_544 : decode cL_law 544 = .ok (.iadd, 1) := by decide +kernel
theorem dL_law_545 : decode cL_law 545 = .ok (.iaload, 1) := by decide +kernel
theorem dL_law_546 : decode cL_law 546 = .ok (.aload_n 0, 1) := by decide +kernel
theorem dL_law_547 : decode cL_law 547 = .ok (.iload 4, 2) := by decide +kernel
theorem dL_law_549 : decode cL_law 549 = .ok (.iconst 2, 1) := by decide +kernel
theorem dL_law_550 : decode cL_law 550 = .ok (.iadd, 1) := by decide +kernel
theorem dL_law_551 : decode cL_law 551 = .ok (.iaload, 1) := by decide +kernel
theorem dL_law_552 : decode cL_law 552 = .ok (.invokevirtual 72, 3) := by decide +kernel
theorem dL_law_555 : decode cL_law 555 = .ok (.istore 6, 2) := by decide +kernel
theorem dL_law_557 : decode cL_law 557 = .ok (.goto 413, 3) := by decide +kernel
theorem dL_law_560 : decode cL_law 560 = .ok (.aload_n 1, 1) := by decide +kernel
theorem dL_law_561 : decode cL_law 561 = .ok (.aload_n 0, 1) := by decide +kernel
theorem dL_law_562 : decode cL_law 562 = .ok (.iload 4, 2) := by decide +kernel
theorem dL_law_564 : decode cL_law 564 = .ok (.iconst 1, 1) := by decide +kernel
theorem dL_law_565 : decode cL_law 565 = .ok (.iadd, 1) := by decide +kernel
theorem dL_law_566 : decode cL_law 566 = .ok (.iaload, 1) := by decide +kernel
theorem dL_law_567 : decode cL_law 567 = .ok (.invokevirtual 73, 3) := by decide +kernel
theorem dL_law_570 : decode cL_law 570 = .ok (.pop, 1) := by decide +kernel
theorem dL_law_571 : decode cL_law 571 = .ok (.aload_n 2, 1) := by decide +kernel
theorem dL_law_572 : decode cL_law 572 = .ok (.aload_n 0, 1) := by decide +kernel
theorem dL_law_573 : decode cL_law 573 = .ok (.iload 4, 2) := by decide +kernel
theorem dL_law_575 : decode cL_law 575 = .ok (.iconst 1, 1) := by decide +kernel
theorem dL_law_576 : decode cL_law 576 = .ok (.iadd, 1) := by decide +kernel
theorem dL_law_577 : decode cL_law 577 = .ok (.iaload, 1) := by decide +kernel
theorem dL_law_578 : decode cL_law 578 = .ok (.invokevirtual 76, 3) := by decide +kernel
theorem dL_law_581 : decode cL_law 581 = .ok (.pop, 1) := by decide +kernel
theorem dL_law_582 : decode cL_law 582 = .ok (.goto 388, 3) := by decide +kernel
theorem dL_law_585 : decode cL_law 585 = .ok (.aload_n 1, 1) := by decide +kernel
theorem dL_law_586 : decode cL_law 586 = .ok (.aload_n 0, 1) := by decide +kernel
theorem dL_law_587 : decode cL_law 587 = .ok (.iload 4, 2) := by decide +kernel
theorem dL_law_589 : decode cL_law 589 = .ok (.iconst 1, 1) := by decide +kernel
theorem dL_law_590 : decode cL_law 590 = .ok (.iadd, 1) := by decide +kernel
theorem dL_law_591 : decode cL_law 591 = .ok (.iaload, 1) := by decide +kernel
theorem dL_law_592 : decode cL_law 592 = .ok (.invokevirtual 77, 3) := by decide +kernel
theorem dL_law_595 : decode cL_law 595 = .ok (.pop, 1) := by decide +kernel
theorem dL_law_596 : decode cL_law 596 = .ok (.aload_n 2, 1) := by decide +kernel
theorem dL_law_597 : decode cL_law 597 = .ok (.aload_n 0, 1) := by decide +kernel
theorem dL_law_598 : decode cL_law 598 = .ok (.iload 4, 2) := by decide +kernel
theorem dL_law_600 : decode cL_law 600 = .ok (.iconst 1, 1) := by decide +kernel
theorem dL_law_601 : decode cL_law 601 = .ok (.iadd, 1) := by decide +kernel
theorem dL_law_602 : decode cL_law 602 = .ok (.iaload, 1) := by decide +kernel
theorem dL_law_603 : decode cL_law 603 = .ok (.invokevirtual 80, 3) := by decide +kernel
theorem dL_law_606 : decode cL_law 606 = .ok (.pop, 1) := by decide +kernel
theorem dL_law_607 : decode cL_law 607 = .ok (.goto 363, 3) := by decide +kernel
theorem dL_law_610 : decode cL_law 610 = .ok (.aload_n 1, 1) := by decide +kernel
theorem dL_law_611 : decode cL_law 611 = .ok (.aload_n 0, 1) := by decide +kernel
theorem dL_law_612 : decode cL_law 612 = .ok (.iload 4, 2) := by decide +kernel
theorem dL_law_614 : decode cL_law 614 = .ok (.iconst 1, 1) := by decide +kernel
theorem dL_law_615 : decode cL_law 615 = .ok (.iadd, 1) := by decide +kernel
theorem dL_law_616 : decode cL_law 616 = .ok (.iaload, 1) := by decide +kernel
theorem dL_law_617 : decode cL_law 617 = .ok (.aload_n 0, 1) := by decide +kernel
theorem dL_law_618 : decode cL_law 618 = .ok (.iload 4, 2) := by decide +kernel
theorem dL_law_620 : decode cL_law 620 = .ok (.iconst 2, 1) := by decide +kernel
theorem dL_law_621 : decode cL_law 621 = .ok (.iadd, 1) := by decide +kernel
theorem dL_law_622 : decode cL_law 622 = .ok (.iaload, 1) := by decide +kernel
theorem dL_law_623 : decode cL_law 623 = .ok (.aload_n 0, 1) := by decide +kernel
theorem dL_law_624 : decode cL_law 624 = .ok (.iload 4, 2) := by decide +kernel
theorem dL_law_626 : decode cL_law 626 = .ok (.iconst 3, 1) := by decide +kernel
theorem dL_law_627 : decode cL_law 627 = .ok (.iadd, 1) := by decide +kernel
theorem dL_law_628 : decode cL_law 628 = .ok (.iaload, 1) := by decide +kernel
theorem dL_law_629 : decode cL_law 629 = .ok (.aload_n 0, 1) := by decide +kernel
theorem dL_law_630 : decode cL_law 630 = .ok (.iload 4, 2) := by decide +kernel
theorem dL_law_632 : decode cL_law 632 = .ok (.iconst 4, 1) := by decide +kernel
theorem dL_law_633 : decode cL_law 633 = .ok (.iadd, 1) := by decide +kernel
theorem dL_law_634 : decode cL_law 634 = .ok (.iaload, 1) := by decide +kernel
theorem dL_law_635 : decode cL_law 635 = .ok (.aload_n 0, 1) := by decide +kernel
theorem dL_law_636 : decode cL_law 636 = .ok (.iload 4, 2) := by decide +kernel
theorem dL_law_638 : decode cL_law 638 = .ok (.iconst 5, 1) := by decide +kernel
theorem dL_law_639 : decode cL_law 639 = .ok (.iadd, 1) := by decide +kernel
theorem dL_law_640 : decode cL_law 640 = .ok (.iaload, 1) := by decide +kernel
theorem dL_law_641 : decode cL_law 641 = .ok (.invokevirtual 81, 3) := by decide +kernel
theorem dL_law_644 : decode cL_law 644 = .ok (.pop, 1) := by decide +kernel
theorem dL_law_645 : decode cL_law 645 = .ok (.aload_n 2, 1) := by decide +kernel
theorem dL_law_646 : decode cL_law 646 = .ok (.aload_n 0, 1) := by decide +kernel
theorem dL_law_647 : decode cL_law 647 = .ok (.iload 4, 2) := by decide +kernel
theorem dL_law_649 : decode cL_law 649 = .ok (.iconst 1, 1) := by decide +kernel
theorem dL_law_650 : decode cL_law 650 = .ok (.iadd, 1) := by decide +kernel
theorem dL_law_651 : decode cL_law 651 = .ok (.iaload, 1) := by decide +kernel
theorem dL_law_652 : decode cL_law 652 = .ok (.aload_n 0, 1) := by decide +kernel
theorem dL_law_653 : decode cL_law 653 = .ok (.iload 4, 2) := by decide +kernel
theorem dL_law_655 : decode cL_law 655 = .ok (.iconst 2, 1) := by decide +kernel
theorem dL_law_656 : decode cL_law 656 = .ok (.iadd, 1) := by decide +kernel
theorem dL_law_657 : decode cL_law 657 = .ok (.iaload, 1) := by decide +kernel
theorem dL_law_658 : decode cL_law 658 = .ok (.aload_n 0, 1) := by decide +kernel
theorem dL_law_659 : decode cL_law 659 = .ok (.iload 4, 2) := by decide +kernel
theorem dL_law_661 : decode cL_law 661 = .ok (.iconst 3, 1) := by decide +kernel
theorem dL_law_662 : decode cL_law 662 = .ok (.iadd, 1) := by decide +kernel
theorem dL_law_663 : decode cL_law 663 = .ok (.iaload, 1) := by decide +kernel
theorem dL_law_664 : decode cL_law 664 = .ok (.aload_n 0, 1) := by decide +kernel
theorem dL_law_665 : decode cL_law 665 = .ok (.iload 4, 2) := by decide +kernel
theorem dL_law_667 : decode cL_law 667 = .ok (.iconst 4, 1) := by decide +kernel
theorem dL_law_668 : decode cL_law 668 = .ok (.iadd, 1) := by decide +kernel
theorem dL_law_669 : decode cL_law 669 = .ok (.iaload, 1) := by decide +kernel
theorem dL_law_670 : decode cL_law 670 = .ok (.aload_n 0, 1) := by decide +kernel
theorem dL_law_671 : decode cL_law 671 = .ok (.iload 4, 2) := by decide +kernel
theorem dL_law_673 : decode cL_law 673 = .ok (.iconst 5, 1) := by decide +kernel
theorem dL_law_674 : decode cL_law 674 = .ok (.iadd, 1) := by decide +kernel
theorem dL_law_675 : decode cL_law 675 = .ok (.iaload, 1) := by decide +kernel
theorem dL_law_676 : decode cL_law 676 = .ok (.invokevirtual 84, 3) := by decide +kernel
theorem dL_law_679 : decode cL_law 679 = .ok (.pop, 1) := by decide +kernel
theorem dL_law_680 : decode cL_law 680 = .ok (.goto 290, 3) := by decide +kernel
theorem dL_law_683 : decode cL_law 683 = .ok (.aload_n 1, 1) := by decide +kernel
theorem dL_law_684 : decode cL_law 684 = .ok (.aload_n 0, 1) := by decide +kernel
theorem dL_law_685 : decode cL_law 685 = .ok (.iload 4, 2) := by decide +kernel
theorem dL_law_687 : decode cL_law 687 = .ok (.iconst 1, 1) := by decide +kernel
theorem dL_law_688 : decode cL_law 688 = .ok (.iadd, 1) := by decide +kernel
theorem dL_law_689 : decode cL_law 689 = .ok (.iaload, 1) := by decide +kernel
theorem dL_law_690 : decode cL_law 690 = .ok (.aload_n 0, 1) := by decide +kernel
theorem dL_law_691 : decode cL_law 691 = .ok (.iload 4, 2) := by decide +kernel
theorem dL_law_693 : decode cL_law 693 = .ok (.iconst 2, 1) := by decide +kernel
theorem dL_law_694 : decode cL_law 694 = .ok (.iadd, 1) := by decide +kernel
theorem dL_law_695 : decode cL_law 695 = .ok (.iaload, 1) := by decide +kernel
theorem dL_law_696 : decode cL_law 696 = .ok (.aload_n 0, 1) := by decide +kernel
theorem dL_law_697 : decode cL_law 697 = .ok (.iload 4, 2) := by decide +kernel
theorem dL_law_699 : decode cL_law 699 = .ok (.iconst 3, 1) := by decide +kernel
theorem dL_law_700 : decode cL_law 700 = .ok (.iadd, 1) := by decide +kernel
theorem dL_law_701 : decode cL_law 701 = .ok (.iaload, 1) := by decide +kernel
theorem dL_law_702 : decode cL_law 702 = .ok (.aload_n 0, 1) := by decide +kernel
theorem dL_law_703 : decode cL_law 703 = .ok (.iload 4, 2) := by decide +kernel
theorem dL_law_705 : decode cL_law 705 = .ok (.iconst 4, 1) := by decide +kernel
theorem dL_law_706 : decode cL_law 706 = .ok (.iadd, 1) := by decide +kernel
theorem dL_law_707 : decode cL_law 707 = .ok (.iaload, 1) := by decide +kernel
theorem dL_law_708 : decode cL_law 708 = .ok (.invokevirtual 85, 3) := by decide +kernel
theorem dL_law_711 : decode cL_law 711 = .ok (.aload_n 2, 1) := by decide +kernel
theorem dL_law_712 : decode cL_law 712 = .ok (.aload_n 0, 1) := by decide +kernel
theorem dL_law_713 : decode cL_law 713 = .ok (.iload 4, 2) := by decide +kernel
theorem dL_law_715 : decode cL_law 715 = .ok (.iconst 1, 1) := by decide +kernel
theorem dL_law_716 : decode cL_law 716 = .ok (.iadd, 1) := by decide +kernel
theorem dL_law_717 : decode cL_law 717 = .ok (.iaload, 1) := by decide +kernel
theorem dL_law_718 : decode cL_law 718 = .ok (.aload_n 0, 1) := by decide +kernel
theorem dL_law_719 : decode cL_law 719 = .ok (.iload 4, 2) := by decide +kernel
theorem dL_law_721 : decode cL_law 721 = .ok (.iconst 2, 1) := by decide +kernel
theorem dL_law_722 : decode cL_law 722 = .ok (.iadd, 1) := by decide +kernel
theorem dL_law_723 : decode cL_law 723 = .ok (.iaload, 1) := by decide +kernel
theorem dL_law_724 : decode cL_law 724 = .ok (.aload_n 0, 1) := by decide +kernel
theorem dL_law_725 : decode cL_law 725 = .ok (.iload 4, 2) := by decide +kernel
theorem dL_law_727 : decode cL_law 727 = .ok (.iconst 3, 1) := by decide +kernel
theorem dL_law_728 : decode cL_law 728 = .ok (.iadd, 1) := by decide +kernel
theorem dL_law_729 : decode cL_law 729 = .ok (.iaload, 1) := by decide +kernel
theorem dL_law_730 : decode cL_law 730 = .ok (.aload_n 0, 1) := by decide +kernel
theorem dL_law_731 : decode cL_law 731 = .ok (.iload 4, 2) := by decide +kernel
theorem dL_law_733 : decode cL_law 733 = .ok (.iconst 4, 1) := by decide +kernel
theorem dL_law_734 : decode cL_law 734 = .ok (.iadd, 1) := by decide +kernel
theorem dL_law_735 : decode cL_law 735 = .ok (.iaload, 1) := by decide +kernel
theorem dL_law_736 : decode cL_law 736 = .ok (.invokevirtual 89, 3) := by decide +kernel
theorem dL_law_739 : decode cL_law 739 = .ok (.if_icmp .eq 231, 3) := by decide +kernel
theorem dL_law_742 : decode cL_law 742 = .ok (.iconst 0, 1) := by decide +kernel
theorem dL_law_743 : decode cL_law 743 = .ok (.ireturn, 1) := by decide +kernel
theorem dL_law_744 : decode cL_law 744 = .ok (.aload_n 1, 1) := by decide +kernel
theorem dL_law_745 : decode cL_law 745 = .ok (.invokevirtual 90, 3) := by decide +kernel
theorem dL_law_748 : decode cL_law 748 = .ok (.pop, 1) := by decide +kernel
theorem dL_law_749 : decode cL_law 749 = .ok (.aload_n 2, 1) := by decide +kernel
theorem dL_law_750 : decode cL_law 750 = .ok (.invokevirtual 93, 3) := by decide +kernel
theorem dL_law_753 : decode cL_law 753 = .ok (.pop, 1) := by decide +kernel
theorem dL_law_754 : decode cL_law 754 = .ok (.goto 216, 3) := by decide +kernel
theorem dL_law_757 : decode cL_law 757 = .ok (.aload_n 1, 1) := by decide +kernel
theorem dL_law_758 : decode cL_law 758 = .ok (.aload_n 0, 1) := by decide +kernel
theorem dL_law_759 : decode cL_law 759 = .ok (.iload 4, 2) := by decide +kernel
theorem dL_law_761 : decode cL_law 761 = .ok (.iconst 1, 1) := by decide +kernel
theorem dL_law_762 : decode cL_law 762 = .ok (.iadd, 1) := by decide +kernel
theorem dL_law_763 : decode cL_law 763 = .ok (.iaload, 1) := by decide +kernel
theorem dL_law_764 : decode cL_law 764 = .ok (.invokevirtual 94, 3) := by decide +kernel
theorem dL_law_767 : decode cL_law 767 = .ok (.pop, 1) := by decide +kernel
theorem dL_law_768 : decode cL_law 768 = .ok (.aload_n 2, 1) := by decide +kernel
theorem dL_law_769 : decode cL_law 769 = .ok (.aload_n 0, 1) := by decide +kernel
theorem dL_law_770 : decode cL_law 770 = .ok (.iload 4, 2) := by decide +kernel
theorem dL_law_772 : decode cL_law 772 = .ok (.iconst 1, 1) := by decide +kernel
theorem dL_law_773 : decode cL_law 773 = .ok (.iadd, 1) := by decide +kernel
theorem dL_law_774 : decode cL_law 774 = .ok (.iaload, 1) := by decide +kernel
theorem dL_law_775 : decode cL_law 775 = .ok (.invokevirtual 97, 3) := by decide +kernel
theorem dL_law_778 : decode cL_law 778 = .ok (.pop, 1) := by decide +kernel
theorem dL_law_779 : decode cL_law 779 = .ok (.goto 191, 3) := by decide +kernel
theorem dL_law_782 : decode cL_law 782 = .ok (.aload_n 1, 1) := by decide +kernel
theorem dL_law_783 : decode cL_law 783 = .ok (.aload_n 0, 1) := by decide +kernel
theorem dL_law_784 : decode cL_law 784 = .ok (.iload 4, 2) := by decide +kernel
theorem dL_law_786 : decode cL_law 786 = .ok (.iconst 1, 1) := by decide +kernel
theorem dL_law_787 : decode cL_law 787 = .ok (.iadd, 1) := by decide +kernel
theorem dL_law_788 : decode cL_law 788 = .ok (.iaload, 1) := by decide +kernel
theorem dL_law_789 : decode cL_law 789 = .ok (.aload_n 0, 1) := by decide +kernel
theorem dL_law_790 : decode cL_law 790 = .ok (.iload 4, 2) := by decide +kernel
theorem dL_law_792 : decode cL_law 792 = .ok (.iconst 2, 1) := by decide +kernel
theorem dL_law_793 : decode cL_law 793 = .ok (.iadd, 1) := by decide +kernel
theorem dL_law_794 : decode cL_law 794 = .ok (.iaload, 1) := by decide +kernel
theorem dL_law_795 : decode cL_law 795 = .ok (.aload_n 0, 1) := by decide +kernel
theorem dL_law_796 : decode cL_law 796 = .ok (.iload 4, 2) := by decide +kernel
theorem dL_law_798 : decode cL_law 798 = .ok (.iconst 3, 1) := by decide +kernel
theorem dL_law_799 : decode cL_law 799 = .ok (.iadd, 1) := by decide +kernel
theorem dL_law_800 : decode cL_law 800 = .ok (.iaload, 1) := by decide +kernel
theorem dL_law_801 : decode cL_law 801 = .ok (.aload_n 0, 1) := by decide +kernel
theorem dL_law_802 : decode cL_law 802 = .ok (.iload 4, 2) := by decide +kernel
theorem dL_law_804 : decode cL_law 804 = .ok (.iconst 4, 1) := by decide +kernel
theorem dL_law_805 : decode cL_law 805 = .ok (.iadd, 1) := by decide +kernel
theorem dL_law_806 : decode cL_law 806 = .ok (.iaload, 1) := by decide +kernel
theorem dL_law_807 : decode cL_law 807 = .ok (.invokevirtual 98, 3) := by decide +kernel
theorem dL_law_810 : decode cL_law 810 = .ok (.pop, 1) := by decide +kernel
theorem dL_law_811 : decode cL_law 811 = .ok (.aload_n 2, 1) := by decide +kernel
theorem dL_law_812 : decode cL_law 812 = .ok (.aload_n 0, 1) := by decide +kernel
theorem dL_law_813 : decode cL_law 813 = .ok (.iload 4, 2) := by decide +kernel
theorem dL_law_815 : decode cL_law 815 = .ok (.iconst 1, 1) := by decide +kernel
theorem dL_law_816 : decode cL_law 816 = .ok (.iadd, 1) := by decide +kernel
theorem dL_law_817 : decode cL_law 817 = .ok (.iaload, 1) := by decide +kernel
theorem dL_law_818 : decode cL_law 818 = .ok (.aload_n 0, 1) := by decide +kernel
theorem dL_law_819 : decode cL_law 819 = .ok (.iload 4, 2) := by decide +kernel
theorem dL_law_821 : decode cL_law 821 = .ok (.iconst 2, 1) := by decide +kernel
theorem dL_law_822 : decode cL_law 822 = .ok (.iadd, 1) := by decide +kernel
theorem dL_law_823 : decode cL_law 823 = .ok (.iaload, 1) := by decide +kernel
theorem dL_law_824 : decode cL_law 824 = .ok (.aload_n 0, 1) := by decide +kernel
theorem dL_law_825 : decode cL_law 825 = .ok (.iload 4, 2) := by decide +kernel
theorem dL_law_827 : decode cL_law 827 = .ok (.iconst 3, 1) := by decide +kernel
theorem dL_law_828 : decode cL_law 828 = .ok (.iadd, 1) := by decide +kernel
theorem dL_law_829 : decode cL_law 829 = .ok (.iaload, 1) := by decide +kernel
theorem dL_law_830 : decode cL_law 830 = .ok (.aload_n 0, 1) := by decide +kernel
theorem dL_law_831 : decode cL_law 831 = .ok (.iload 4, 2) := by decide +kernel
theorem dL_law_833 : decode cL_law 833 = .ok (.iconst 4, 1) := by decide +kernel
theorem dL_law_834 : decode cL_law 834 = .ok (.iadd, 1) := by decide +kernel
theorem dL_law_835 : decode cL_law 835 = .ok (.iaload, 1) := by decide +kernel
theorem dL_law_836 : decode cL_law 836 = .ok (.invokevirtual 101, 3) := by decide +kernel
theorem dL_law_839 : decode cL_law 839 = .ok (.pop, 1) := by decide +kernel
theorem dL_law_840 : decode cL_law 840 = .ok (.goto 130, 3) := by decide +kernel
theorem dL_law_843 : decode cL_law 843 = .ok (.aload_n 1, 1) := by decide +kernel
theorem dL_law_844 : decode cL_law 844 = .ok (.invokevirtual 102, 3) := by decide +kernel
theorem dL_law_847 : decode cL_law 847 = .ok (.pop, 1) := by decide +kernel
theorem dL_law_848 : decode cL_law 848 = .ok (.aload_n 2, 1) := by decide +kernel
theorem dL_law_849 : decode cL_law 849 = .ok (.invokevirtual 105, 3) := by decide +kernel
theorem dL_law_852 : decode cL_law 852 = .ok (.pop, 1) := by decide +kernel
theorem dL_law_853 : decode cL_law 853 = .ok (.goto 117, 3) := by decide +kernel
theorem dL_law_856 : decode cL_law 856 = .ok (.aload_n 1, 1) := by decide +kernel
theorem dL_law_857 : decode cL_law 857 = .ok (.invokevirtual 106, 3) := by decide +kernel
theorem dL_law_860 : decode cL_law 860 = .ok (.pop, 1) := by decide +kernel
theorem dL_law_861 : decode cL_law 861 = .ok (.aload_n 2, 1) := by decide +kernel
theorem dL_law_862 : decode cL_law 862 = .ok (.invokevirtual 109, 3) := by decide +kernel
theorem dL_law_865 : decode cL_law 865 = .ok (.pop, 1) := by decide +kernel
theorem dL_law_866 : decode cL_law 866 = .ok (.goto 104, 3) := by decide +kernel
theorem dL_law_869 : decode cL_law 869 = .ok (.aload_n 1, 1) := by decide +kernel
theorem dL_law_870 : decode cL_law 870 = .ok (.aload_n 0, 1) := by decide +kernel
theorem dL_law_871 : decode cL_law 871 = .ok (.iload 4, 2) := by decide +kernel
theorem dL_law_873 : decode cL_law 873 = .ok (.iconst 1, 1) := by decide +kernel
theorem dL_law_874 : decode cL_law 874 = .ok (.iadd, 1) := by decide +kernel
theorem dL_law_875 : decode cL_law 875 = .ok (.iaload, 1) := by decide +kernel
theorem dL_law_876 : decode cL_law 876 = .ok (.invokevirtual 110, 3) := by decide +kernel
theorem dL_law_879 : decode cL_law 879 = .ok (.pop, 1) := by decide +kernel
theorem dL_law_880 : decode cL_law 880 = .ok (.aload_n 2, 1) := by decide +kernel
theorem dL_law_881 : decode cL_law 881 = .ok (.aload_n 0, 1) := by decide +kernel
theorem dL_law_882 : decode cL_law 882 = .ok (.iload 4, 2) := by decide +kernel
theorem dL_law_884 : decode cL_law 884 = .ok (.iconst 1, 1) := by decide +kernel
theorem dL_law_885 : decode cL_law 885 = .ok (.iadd, 1) := by decide +kernel
theorem dL_law_886 : decode cL_law 886 = .ok (.iaload, 1) := by decide +kernel
theorem dL_law_887 : decode cL_law 887 = .ok (.invokevirtual 113, 3) := by decide +kernel
theorem dL_law_890 : decode cL_law 890 = .ok (.pop, 1) := by decide +kernel
theorem dL_law_891 : decode cL_law 891 = .ok (.goto 79, 3) := by decide +kernel
theorem dL_law_894 : decode cL_law 894 = .ok (.aload_n 1, 1) := by decide +kernel
theorem dL_law_895 : decode cL_law 895 = .ok (.aload_n 0, 1) := by decide +kernel
theorem dL_law_896 : decode cL_law 896 = .ok (.iload 4, 2) := by decide +kernel
theorem dL_law_898 : decode cL_law 898 = .ok (.iconst 1, 1) := by decide +kernel
theorem dL_law_899 : decode cL_law 899 = .ok (.iadd, 1) := by decide +kernel
theorem dL_law_900 : decode cL_law 900 = .ok (.iaload, 1) := by decide +kernel
theorem dL_law_901 : decode cL_law 901 = .ok (.invokevirtual 114, 3) := by decide +kernel
theorem dL_law_904 : decode cL_law 904 = .ok (.pop, 1) := by decide +kernel
theorem dL_law_905 : decode cL_law 905 = .ok (.aload_n 2, 1) := by decide +kernel
theorem dL_law_906 : decode cL_law 906 = .ok (.aload_n 0, 1) := by decide +kernel
theorem dL_law_907 : decode cL_law 907 = .ok (.iload 4, 2) := by decide +kernel
theorem dL_law_909 : decode cL_law 909 = .ok (.iconst 1, 1) := by decide +kernel
theorem dL_law_910 : decode cL_law 910 = .ok (.iadd, 1) := by decide +kernel
theorem dL_law_911 : decode cL_law 911 = .ok (.iaload, 1) := by decide +kernel
theorem dL_law_912 : decode cL_law 912 = .ok (.invokevirtual 117, 3) := by decide +kernel
theorem dL_law_915 : decode cL_law 915 = .ok (.pop, 1) := by decide +kernel
theorem dL_law_916 : decode cL_law 916 = .ok (.goto 54, 3) := by decide +kernel
theorem dL_law_919 : decode cL_law 919 = .ok (.aload_n 1, 1) := by decide +kernel
theorem dL_law_920 : decode cL_law 920 = .ok (.invokevirtual 118, 3) := by decide +kernel
theorem dL_law_923 : decode cL_law 923 = .ok (.pop, 1) := by decide +kernel
theorem dL_law_924 : decode cL_law 924 = .ok (.aload_n 2, 1) := by decide +kernel
theorem dL_law_925 : decode cL_law 925 = .ok (.invokevirtual 121, 3) := by decide +kernel
theorem dL_law_928 : decode cL_law 928 = .ok (.pop, 1) := by decide +kernel
theorem dL_law_929 : decode cL_law 929 = .ok (.goto 41, 3) := by decide +kernel
theorem dL_law_932 : decode cL_law 932 = .ok (.aload_n 1, 1) := by decide +kernel
theorem dL_law_933 : decode cL_law 933 = .ok (.aload_n 0, 1) := by decide +kernel
theorem dL_law_934 : decode cL_law 934 = .ok (.iload 4, 2) := by decide +kernel
theorem dL_law_936 : decode cL_law 936 = .ok (.iconst 1, 1) := by decide +kernel
theorem dL_law_937 : decode cL_law 937 = .ok (.iadd, 1) := by decide +kernel
theorem dL_law_938 : decode cL_law 938 = .ok (.iaload, 1) := by decide +kernel
theorem dL_law_939 : decode cL_law 939 = .ok (.invokevirtual 122, 3) := by decide +kernel
theorem dL_law_942 : decode cL_law 942 = .ok (.pop, 1) := by decide +kernel
theorem dL_law_943 : decode cL_law 943 = .ok (.aload_n 2, 1) := by decide +kernel
theorem dL_law_944 : decode cL_law 944 = .ok (.aload_n 0, 1) := by decide +kernel
theorem dL_law_945 : decode cL_law 945 = .ok (.iload 4, 2) := by decide +kernel
theorem dL_law_947 : decode cL_law 947 = .ok (.iconst 1, 1) := by decide +kernel
theorem dL_law_948 : decode cL_law 948 = .ok (.iadd, 1) := by decide +kernel
theorem dL_law_949 : decode cL_law 949 = .ok (.iaload, 1) := by decide +kernel
theorem dL_law_950 : decode cL_law 950 = .ok (.invokevirtual 125, 3) := by decide +kernel
theorem dL_law_953 : decode cL_law 953 = .ok (.pop, 1) := by decide +kernel
theorem dL_law_954 : decode cL_law 954 = .ok (.goto 16, 3) := by decide +kernel
theorem dL_law_957 : decode cL_law 957 = .ok (.aload_n 1, 1) := by decide +kernel
theorem dL_law_958 : decode cL_law 958 = .ok (.invokevirtual 126, 3) := by decide +kernel
theorem dL_law_961 : decode cL_law 961 = .ok (.pop, 1) := by decide +kernel
theorem dL_law_962 : decode cL_law 962 = .ok (.aload_n 2, 1) := by decide +kernel
theorem dL_law_963 : decode cL_law 963 = .ok (.invokevirtual 129, 3) := by decide +kernel
theorem dL_law_966 : decode cL_law 966 = .ok (.pop, 1) := by decide +kernel
theorem dL_law_967 : decode cL_law 967 = .ok (.goto 3, 3) := by decide +kernel
theorem dL_law_970 : decode cL_law 970 = .ok (.iinc 4 6, 3) := by decide +kernel
theorem dL_law_973 : decode cL_law 973 = .ok (.goto (-950), 3) := by decide +kernel
theorem dL_law_976 : decode cL_law 976 = .ok (.iconst 1, 1) := by decide +kernel
theorem dL_law_977 : decode cL_law 977 = .ok (.ireturn, 1) := by decide +kernel
