theorem dX8_init_0 : decode cX8_init 0 = .ok (.aload_n 0, 1) := by decide +kernel
theorem dX8_init_1 : decode cX8_init 1 = .ok (.invokespecial 1, 3) := by decide +kernel
theorem dX8_init_4 : decode cX8_init 4 = .ok (.aload_n 0, 1) := by decide +kernel
theorem dX8_init_5 : decode cX8_init 5 = .ok (.bipush 12, 2) := by decide +kernel
theorem dX8_init_7 : decode cX8_init 7 = .ok (.newarray .int, 2) := by decide +kernel
theorem dX8_init_9 : decode cX8_init 9 = .ok (.putfield 7, 3) := by decide +kernel
theorem dX8_init_12 : decode cX8_init 12 = .ok (.aload_n 0, 1) := by decide +kernel
theorem dX8_init_13 : decode cX8_init 13 = .ok (.bipush 12, 2) := by decide +kernel
theorem dX8_init_15 : decode cX8_init 15 = .ok (.newarray .int, 2) := by decide +kernel
theorem dX8_init_17 : decode cX8_init 17 = .ok (.putfield 13, 3) := by decide +kernel
theorem dX8_init_20 : decode cX8_init 20 = .ok (.aload_n 0, 1) := by decide +kernel
theorem dX8_init_21 : decode cX8_init 21 = .ok (.bipush 51, 2) := by decide +kernel
theorem dX8_init_23 : decode cX8_init 23 = .ok (.newarray .int, 2) := by decide +kernel
theorem dX8_init_25 : decode cX8_init 25 = .ok (.putfield 16, 3) := by decide +kernel
theorem dX8_init_28 : decode cX8_init 28 = .ok (.aload_n 0, 1) := by decide +kernel
theorem dX8_init_29 : decode cX8_init 29 = .ok (.sipush 240, 3) := by decide +kernel
theorem dX8_init_32 : decode cX8_init 32 = .ok (.newarray .int, 2) := by decide +kernel
theorem dX8_init_34 : decode cX8_init 34 = .ok (.putfield 19, 3) := by decide +kernel
theorem dX8_init_37 : decode cX8_init 37 = .ok (.aload_n 0, 1) := by decide +kernel
theorem dX8_init_38 : decode cX8_init 38 = .ok (.iconst (-1), 1) := by decide +kernel
theorem dX8_init_39 : decode cX8_init 39 = .ok (.putfield 22, 3) := by decide +kernel
theorem dX8_init_42 : decode cX8_init 42 = .ok (.aload_n 0, 1) := by decide +kernel
theorem dX8_init_43 : decode cX8_init 43 = .ok (.iconst 3, 1) := by decide +kernel
theorem dX8_init_44 : decode cX8_init 44 = .ok (.newarray .int, 2) := by decide +kernel
theorem dX8_init_46 : decode cX8_init 46 = .ok (.putfield 26, 3) := by decide +kernel
theorem dX8_init_49 : decode cX8_init 49 = .ok (.aload_n 0, 1) := by decide +kernel
theorem dX8_init_50 : decode cX8_init 50 = .ok (.bipush 12, 2) := by decide +kernel
theorem dX8_init_52 : decode cX8_init 52 = .ok (.newarray .int, 2) := by decide +kernel
theorem dX8_init_54 : decode cX8_init 54 = .ok (.putfield 29, 3) := by decide +kernel
theorem dX8_init_57 : decode cX8_init 57 = .ok (.aload_n 0, 1) := by decide +kernel
theorem dX8_init_58 : decode cX8_init 58 = .ok (.bipush 12, 2) := by decide +kernel
theorem dX8_init_60 : decode cX8_init 60 = .ok (.newarray .int, 2) := by decide +kernel
theorem dX8_init_62 : decode cX8_init 62 = .ok (.putfield 32, 3) := by decide +kernel
theorem dX8_init_65 : decode cX8_init 65 = .ok (.aload_n 0, 1) := by decide +kernel
theorem dX8_init_66 : decode cX8_init 66 = .ok (.sipush 816, 3) := by decide +kernel
theorem dX8_init_69 : decode cX8_init 69 = .ok (.newarray .int, 2) := by decide +kernel
theorem dX8_init_71 : decode cX8_init 71 = .ok (.putfield 35, 3) := by decide +kernel
theorem dX8_init_74 : decode cX8_init 74 = .ok (.aload_n 0, 1) := by decide +kernel
theorem dX8_init_75 : decode cX8_init 75 = .ok (.bipush 12, 2) := by decide +kernel
theorem dX8_init_77 : decode cX8_init 77 = .ok (.newarray .int, 2) := by decide +kernel
theorem dX8_init_79 : decode cX8_init 79 = .ok (.putfield 38, 3) := by decide +kernel
theorem dX8_init_82 : decode cX8_init 82 = .ok (.aload_n 0, 1) := by decide +kernel
theorem dX8_init_83 : decode cX8_init 83 = .ok (.bipush 6, 2) := by decide +kernel
theorem dX8_init_85 : decode cX8_init 85 = .ok (.newarray .int, 2) := by decide +kernel
theorem dX8_init_87 : decode cX8_init 87 = .ok (.putfield 41, 3) := by decide +kernel
theorem dX8_init_90 : decode cX8_init 90 = .ok (.aload_n 0, 1) := by decide +kernel
theorem dX8_init_91 : decode cX8_init 91 = .ok (.bipush 12, 2) := by decide +kernel
theorem dX8_init_93 : decode cX8_init 93 = .ok (.newarray .int, 2) := by decide +kernel
theorem dX8_init_95 : decode cX8_init 95 = .ok (.putfield 44, 3) := by decide +kernel
theorem dX8_init_98 : decode cX8_init 98 = .ok (.aload_n 0, 1) := by decide +kernel
theorem dX8_init_99 : decode cX8_init 99 = .ok (.iconst 3, 1) := by decide +kernel
theorem dX8_init_100 : decode cX8_init 100 = .ok (.newarray .int, 2) := by decide +kernel
theorem dX8_init_102 : decode cX8_init 102 = .ok (.putfield 47, 3) := by decide +kernel
theorem dX8_init_105 : decode cX8_init 105 = .ok (.aload_n 0, 1) := by decide +kernel
theorem dX8_init_106 : decode cX8_init 106 = .ok (.bipush 6, 2) := by decide +kernel
theorem dX8_init_108 : decode cX8_init 108 = .ok (.newarray .int, 2) := by decide +kernel
theorem dX8_init_110 : decode cX8_init 110 = .ok (.putfield 50, 3) := by decide +kernel
theorem dX8_init_113 : decode cX8_init 113 = .ok (.aload_n 0, 1) := by decide +kernel
theorem dX8_init_114 : decode cX8_init 114 = .ok (.bipush 6, 2) := by decide +kernel
theorem dX8_init_116 : decode cX8_init 116 = .ok (.newarray .int, 2) := by decide +kernel
theorem dX8_init_118 : decode cX8_init 118 = .ok (.putfield 53, 3) := by decide +kernel
theorem dX8_init_121 : decode cX8_init 121 = .ok (.aload_n 0, 1) := by decide +kernel
theorem dX8_init_122 : decode cX8_init 122 = .ok (.bipush 6, 2) := by decide +kernel
theorem dX8_init_124 : decode cX8_init 124 = .ok (.newarray .int, 2) := by decide +kernel
theorem dX8_init_126 : decode cX8_init 126 = .ok (.putfield 56, 3) := by decide +kernel
theorem dX8_init_129 : decode cX8_init 129 = .ok (.aload_n 0, 1) := by decide +kernel
theorem dX8_init_130 : decode cX8_init 130 = .ok (.bipush 6, 2) := by decide +kernel
theorem dX8_init_132 : decode cX8_init 132 = .ok (.newarray .int, 2) := by decide +kernel
theorem dX8_init_134 : decode cX8_init 134 = .ok (.putfield 59, 3) := by decide +kernel
theorem dX8_init_137 : decode cX8_init 137 = .ok (.aload_n 0, 1) := by decide +kernel
theorem dX8_init_138 : decode cX8_init 138 = .ok (.bipush 15, 2) := by decide +kernel
theorem dX8_init_140 : decode cX8_init 140 = .ok (.newarray .int, 2) := by decide +kernel
theorem dX8_init_142 : decode cX8_init 142 = .ok (.putfield 62, 3) := by decide +kernel
theorem dX8_init_145 : decode cX8_init 145 = .ok (.aload_n 0, 1) := by decide +kernel
theorem dX8_init_146 : decode cX8_init 146 = .ok (.bipush 15, 2) := by decide +kernel
theorem dX8_init_148 : decode cX8_init 148 = .ok (.newarray .int, 2) := by decide +kernel
theorem dX8_init_150 : decode cX8_init 150 = .ok (.putfield 65, 3) := by decide +kernel
theorem dX8_init_153 : decode cX8_init 153 = .ok (.aload_n 0, 1) := by decide +kernel
theorem dX8_init_154 : decode cX8_init 154 = .ok (.bipush 104, 2) := by decide +kernel
theorem dX8_init_156 : decode cX8_init 156 = .ok (.newarray .int, 2) := by decide +kernel
theorem dX8_init_158 : decode cX8_init 158 = .ok (.putfield 68, 3) := by decide +kernel
theorem dX8_init_161 : decode cX8_init 161 = .ok (.aload_n 0, 1) := by decide +kernel
theorem dX8_init_162 : decode cX8_init 162 = .ok (.iconst 2, 1) := by decide +kernel
theorem dX8_init_163 : decode cX8_init 163 = .ok (.newarray .boolean, 2) := by decide +kernel
theorem dX8_init_165 : decode cX8_init 165 = .ok (.putfield 71, 3) := by decide +kernel
theorem dX8_init_168 : decode cX8_init 168 = .ok (.iconst 0, 1) := by decide +kernel
theorem dX8_init_169 : decode cX8_init 169 = .ok (.istore_n 1, 1) := by decide +kernel
theorem dX8_init_170 : decode cX8_init 170 = .ok (.iload_n 1, 1) := by decide +kernel
theorem dX8_init_171 : decode cX8_init 171 = .ok (.bipush 6, 2) := by decide +kernel
theorem dX8_init_173 : decode cX8_init 173 = .ok (.if_icmp .ge 19, 3) := by decide +kernel
theorem dX8_init_176 : decode cX8_init 176 = .ok (.aload_n 0, 1) := by decide +kernel
theorem dX8_init_177 : decode cX8_init 177 = .ok (.getfield 16, 3) := by decide +kernel
theorem dX8_init_180 : decode cX8_init 180 = .ok (.bipush 13, 2) := by decide +kernel
theorem dX8_init_182 : decode cX8_init 182 = .ok (.iload_n 1, 1) := by decide +kernel
theorem dX8_init_183 : decode cX8_init 183 = .ok (.iadd, 1) := by decide +kernel
theorem dX8_init_184 : decode cX8_init 184 = .ok (.iconst (-1), 1) := by decide +kernel
theorem dX8_init_185 : decode cX8_init 185 = .ok (.iastore, 1) := by decide +kernel
theorem dX8_init_186 : decode cX8_init 186 = .ok (.iinc 1 1, 3) := by decide +kernel
theorem dX8_init_189 : decode cX8_init 189 = .ok (.goto (-19), 3) := by decide +kernel
theorem dX8_init_192 : decode cX8_init 192 = .ok (.return_, 1) := by decide +kernel
theorem dX8_in_0 : decode cX8_in 0 = .ok (.lload_n 0, 1) := by decide +kernel
theorem dX8_in_1 : decode cX8_in 1 = .ok (.lload_n 2, 1) := by decide +kernel
theorem dX8_in_2 : decode cX8_in 2 = .ok (.lcmp, 1) := by decide +kernel
theorem dX8_in_3 : decode cX8_in 3 = .ok (.ifCond .lt 14, 3) := by decide +kernel
theorem dX8_in_6 : decode cX8_in 6 = .ok (.lload_n 0, 1) := by decide +kernel
theorem dX8_in_7 : decode cX8_in 7 = .ok (.lload 4, 2) := by decide +kernel
theorem dX8_in_9 : decode cX8_in 9 = .ok (.lcmp, 1) := by decide +kernel
theorem dX8_in_10 : decode cX8_in 10 = .ok (.ifCond .gt 7, 3) := by decide +kernel
theorem dX8_in_13 : decode cX8_in 13 = .ok (.iconst 1, 1) := by decide +kernel
theorem dX8_in_14 : decode cX8_in 14 = .ok (.goto 4, 3) := by decide +kernel
theorem dX8_in_17 : decode cX8_in 17 = .ok (.iconst 0, 1) := by decide +kernel
theorem dX8_in_18 : decode cX8_in 18 = .ok (.ireturn, 1) := by decide +kernel
theorem dX8_has_0 : decode cX8_has 0 = .ok (.iload_n 0, 1) := by decide +kernel
theorem dX8_has_1 : decode cX8_has 1 = .ok (.iload_n 1, 1) := by decide +kernel
theorem dX8_has_2 : decode cX8_has 2 = .ok (.ishr, 1) := by decide +kernel
theorem dX8_has_3 : decode cX8_has 3 = .ok (.iconst 1, 1) := by decide +kernel
theorem dX8_has_4 : decode cX8_has 4 = .ok (.iand, 1) := by decide +kernel
theorem dX8_has_5 : decode cX8_has 5 = .ok (.iconst 1, 1) := by decide +kernel
theorem dX8_has_6 : decode cX8_has 6 = .ok (.if_icmp .ne 7, 3) := by decide +kernel
theorem dX8_has_9 : decode cX8_has 9 = .ok (.iconst 1, 1) := by decide +kernel
theorem dX8_has_10 : decode cX8_has 10 = .ok (.goto 4, 3) := by decide +kernel
theorem dX8_has_13 : decode cX8_has 13 = .ok (.iconst 0, 1) := by decide +kernel
theorem dX8_has_14 : decode cX8_has 14 = .ok (.ireturn, 1) := by decide +kernel
theorem dX8_bits_0 : decode cX8_bits 0 = .ok (.iconst 0, 1) := by decide +kernel
theorem dX8_bits_1 : decode cX8_bits 1 = .ok (.istore_n 1, 1) := by decide +kernel
theorem dX8_bits_2 : decode cX8_bits 2 = .ok (.iconst 0, 1) := by decide +kernel
theorem dX8_bits_3 : decode cX8_bits 3 = .ok (.istore_n 2, 1) := by decide +kernel
theorem dX8_bits_4 : decode cX8_bits 4 = .ok (.iload_n 2, 1) := by decide +kernel
theorem dX8_bits_5 : decode cX8_bits 5 = .ok (.bipush 12, 2) := by decide +kernel
theorem dX8_bits_7 : decode cX8_bits 7 = .ok (.if_icmp .ge 17, 3) := by decide +kernel
theorem dX8_bits_10 : decode cX8_bits 10 = .ok (.iload_n 1, 1) := by decide +kernel
theorem dX8_bits_11 : decode cX8_bits 11 = .ok (.iload_n 0, 1) := by decide +kernel
theorem dX8_bits_12 : decode cX8_bits 12 = .ok (.iload_n 2, 1) := by decide +kernel
theorem dX8_bits_13 : decode cX8_bits 13 = .ok (.ishr, 1) := by decide +kernel
theorem dX8_bits_14 : decode cX8_bits 14 = .ok (.iconst 1, 1) := by decide +kernel
theorem dX8_bits_15 : decode cX8_bits 15 = .ok (.iand, 1) := by decide +kernel
theorem dX8_bits_16 : decode cX8_bits 16 = .ok (.iadd, 1) := by decide +kernel
theorem dX8_bits_17 : decode cX8_bits 17 = .ok (.istore_n 1, 1) := by decide +kernel
theorem dX8_bits_18 : decode cX8_bits 18 = .ok (.iinc 2 1, 3) := by decide +kernel
theorem dX8_bits_21 : decode cX8_bits 21 = .ok (.goto (-17), 3) := by decide +kernel
theorem dX8_bits_24 : decode cX8_bits 24 = .ok (.iload_n 1, 1) := by decide +kernel
theorem dX8_bits_25 : decode cX8_bits 25 = .ok (.ireturn, 1) := by decide +kernel
theorem dX8_isPerson_0 : decode cX8_isPerson 0 = .ok (.iload_n 1, 1) := by decide +kernel
theorem dX8_isPerson_1 : decode cX8_isPerson 1 = .ok (.i2l, 1) := by decide +kernel
theorem dX8_isPerson_2 : decode cX8_isPerson 2 = .ok (.lconst 0, 1) := by decide +kernel
theorem dX8_isPerson_3 : decode cX8_isPerson 3 = .ok (.aload_n 0, 1) := by decide +kernel
theorem dX8_isPerson_4 : decode cX8_isPerson 4 = .ok (.getfield 75, 3) := by decide +kernel
theorem dX8_isPerson_7 : decode cX8_isPerson 7 = .ok (.iconst 1, 1) := by decide +kernel
theorem dX8_isPerson_8 : decode cX8_isPerson 8 = .ok (.isub, 1) := by decide +kernel
theorem dX8_isPerson_9 : decode cX8_isPerson 9 = .ok (.i2l, 1) := by decide +kernel
theorem dX8_isPerson_10 : decode cX8_isPerson 10 = .ok (.invokestatic 78, 3) := by decide +kernel
theorem dX8_isPerson_13 : decode cX8_isPerson 13 = .ok (.ireturn, 1) := by decide +kernel
theorem dX8_areTwo_0 : decode cX8_areTwo 0 = .ok (.aload_n 0, 1) := by decide +kernel
theorem dX8_areTwo_1 : decode cX8_areTwo 1 = .ok (.iload_n 1, 1) := by decide +kernel
theorem dX8_areTwo_2 : decode cX8_areTwo 2 = .ok (.invokevirtual 82, 3) := by decide +kernel
theorem dX8_areTwo_5 : decode cX8_areTwo 5 = .ok (.ifCond .eq 20, 3) := by decide +kernel
theorem dX8_areTwo_8 : decode cX8_areTwo 8 = .ok (.aload_n 0, 1) := by decide +kernel
theorem dX8_areTwo_9 : decode cX8_areTwo 9 = .ok (.iload_n 2, 1) := by decide +kernel
theorem dX8_areTwo_10 : decode cX8_areTwo 10 = .ok (.invokevirtual 82, 3) := by decide +kernel
theorem dX8_areTwo_13 : decode cX8_areTwo 13 = .ok (.ifCond .eq 12, 3) := by decide +kernel
theorem dX8_areTwo_16 : decode cX8_areTwo 16 = .ok (.iload_n 1, 1) := by decide +kernel
theorem dX8_areTwo_17 : decode cX8_areTwo 17 = .ok (.iload_n 2, 1) := by decide +kernel
theorem dX8_areTwo_18 : decode cX8_areTwo 18 = .ok (.if_icmp .eq 7, 3) := by decide +kernel
theorem dX8_areTwo_21 : decode cX8_areTwo 21 = .ok (.iconst 1, 1) := by decide +kernel
theorem dX8_areTwo_22 : decode cX8_areTwo 22 = .ok (.goto 4, 3) := by decide +kernel
theorem dX8_areTwo_25 : decode cX8_areTwo 25 = .ok (.iconst 0, 1) := by decide +kernel
theorem dX8_areTwo_26 : decode cX8_areTwo 26 = .ok (.ireturn, 1) := by decide +kernel
theorem dX8_isCard_0 : decode cX8_isCard 0 = .ok (.iload_n 1, 1) := by decide +kernel
theorem dX8_isCard_1 : decode cX8_isCard 1 = .ok (.i2l, 1) := by decide +kernel
theorem dX8_isCard_2 : decode cX8_isCard 2 = .ok (.lconst 0, 1) := by decide +kernel
theorem dX8_isCard_3 : decode cX8_isCard 3 = .ok (.aload_n 0, 1) := by decide +kernel
theorem dX8_isCard_4 : decode cX8_isCard 4 = .ok (.getfield 86, 3) := by decide +kernel
theorem dX8_isCard_7 : decode cX8_isCard 7 = .ok (.iconst 1, 1) := by decide +kernel
theorem dX8_isCard_8 : decode cX8_isCard 8 = .ok (.isub, 1) := by decide +kernel
theorem dX8_isCard_9 : decode cX8_isCard 9 = .ok (.i2l, 1) := by decide +kernel
theorem dX8_isCard_10 : decode cX8_isCard 10 = .ok (.invokestatic 78, 3) := by decide +kernel
theorem dX8_isCard_13 : decode cX8_isCard 13 = .ok (.ireturn, 1) := by decide +kernel
theorem dX8_feed_0 : decode cX8_feed 0 = .ok (.iload_n 1, 1) := by decide +kernel
theorem dX8_feed_1 : decode cX8_feed 1 = .ok (.i2l, 1) := by decide +kernel
theorem dX8_feed_2 : decode cX8_feed 2 = .ok (.lconst 0, 1) := by decide +kernel
theorem dX8_feed_3 : decode cX8_feed 3 = .ok (.ldc2_w 89, 3) := by decide +kernel
theorem dX8_feed_6 : decode cX8_feed 6 = .ok (.invokestatic 78, 3) := by decide +kernel
theorem dX8_feed_9 : decode cX8_feed 9 = .ok (.ifCond .ne 6, 3) := by decide +kernel
theorem dX8_feed_12 : decode cX8_feed 12 = .ok (.ldc 91, 2) := by decide +kernel
theorem dX8_feed_14 : decode cX8_feed 14 = .ok (.ireturn, 1) := by decide +kernel
theorem dX8_feed_15 : decode cX8_feed 15 = .ok (.aload_n 0, 1) := by decide +kernel
theorem dX8_feed_16 : decode cX8_feed 16 = .ok (.getfield 92, 3) := by decide +kernel
theorem dX8_feed_19 : decode cX8_feed 19 = .ok (.sipush 240, 3) := by decide +kernel
theorem dX8_feed_22 : decode cX8_feed 22 = .ok (.if_icmp .ne 6, 3) := by decide +kernel
theorem dX8_feed_25 : decode cX8_feed 25 = .ok (.ldc 95, 2) := by decide +kernel
theorem dX8_feed_27 : decode cX8_feed 27 = .ok (.ireturn, 1) := by decide +kernel
theorem dX8_feed_28 : decode cX8_feed 28 = .ok (.aload_n 0, 1) := by decide +kernel
theorem dX8_feed_29 : decode cX8_feed 29 = .ok (.getfield 19, 3) := by decide +kernel
theorem dX8_feed_32 : decode cX8_feed 32 = .ok (.aload_n 0, 1) := by decide +kernel
theorem dX8_feed_33 : decode cX8_feed 33 = .ok (.getfield 92, 3) := by decide +kernel
theorem dX8_feed_36 : decode cX8_feed 36 = .ok (.iload_n 1, 1) := by decide +kernel
theorem dX8_feed_37 : decode cX8_feed 37 = .ok (.iastore, 1) := by decide +kernel
theorem dX8_feed_38 : decode cX8_feed 38 = .ok (.aload_n 0, 1) := by decide +kernel
theorem dX8_feed_39 : decode cX8_feed 39 = .ok (.dup, 1) := by decide +kernel
theorem dX8_feed_40 : decode cX8_feed 40 = .ok (.getfield 92, 3) := by decide +kernel
theorem dX8_feed_43 : decode cX8_feed 43 = .ok (.iconst 1, 1) := by decide +kernel
theorem dX8_feed_44 : decode cX8_feed 44 = .ok (.iadd, 1) := by decide +kernel
theorem dX8_feed_45 : decode cX8_feed 45 = .ok (.putfield 92, 3) := by decide +kernel
theorem dX8_feed_48 : decode cX8_feed 48 = .ok (.aload_n 0, 1) := by decide +kernel
theorem dX8_feed_49 : decode cX8_feed 49 = .ok (.getfield 92, 3) := by decide +kernel
theorem dX8_feed_52 : decode cX8_feed 52 = .ok (.ireturn, 1) := by decide +kernel
theorem dX8_here_0 : decode cX8_here 0 = .ok (.aload_n 0, 1) := by decide +kernel
theorem dX8_here_1 : decode cX8_here 1 = .ok (.getfield 96, 3) := by decide +kernel
theorem dX8_here_4 : decode cX8_here 4 = .ok (.aload_n 0, 1) := by decide +kernel
theorem dX8_here_5 : decode cX8_here 5 = .ok (.getfield 92, 3) := by decide +kernel
theorem dX8_here_8 : decode cX8_here 8 = .ok (.if_icmp .ge 30, 3) := by decide +kernel
theorem dX8_here_11 : decode cX8_here 11 = .ok (.aload_n 0, 1) := by decide +kernel
theorem dX8_here_12 : decode cX8_here 12 = .ok (.getfield 19, 3) := by decide +kernel
theorem dX8_here_15 : decode cX8_here 15 = .ok (.aload_n 0, 1) := by decide +kernel
theorem dX8_here_16 : decode cX8_here 16 = .ok (.getfield 96, 3) := by decide +kernel
theorem dX8_here_19 : decode cX8_here 19 = .ok (.iaload, 1) := by decide +kernel
theorem dX8_here_20 : decode cX8_here 20 = .ok (.bipush 32, 2) := by decide +kernel
theorem dX8_here_22 : decode cX8_here 22 = .ok (.if_icmp .ne 16, 3) := by decide +kernel
theorem dX8_here_25 : decode cX8_here 25 = .ok (.aload_n 0, 1) := by decide +kernel
theorem dX8_here_26 : decode cX8_here 26 = .ok (.dup, 1) := by decide +kernel
theorem dX8_here_27 : decode cX8_here 27 = .ok (.getfield 96, 3) := by decide +kernel
theorem dX8_here_30 : decode cX8_here 30 = .ok (.iconst 1, 1) := by decide +kernel
theorem dX8_here_31 : decode cX8_here 31 = .ok (.iadd, 1) := by decide +kernel
theorem dX8_here_32 : decode cX8_here 32 = .ok (.putfield 96, 3) := by decide +kernel
theorem dX8_here_35 : decode cX8_here 35 = .ok (.goto (-35), 3) := by decide +kernel
theorem dX8_here_38 : decode cX8_here 38 = .ok (.aload_n 0, 1) := by decide +kernel
theorem dX8_here_39 : decode cX8_here 39 = .ok (.getfield 96, 3) := by decide +kernel
theorem dX8_here_42 : decode cX8_here 42 = .ok (.aload_n 0, 1) := by decide +kernel
theorem dX8_here_43 : decode cX8_here 43 = .ok (.getfield 92, 3) := by decide +kernel
theorem dX8_here_46 : decode cX8_here 46 = .ok (.if_icmp .ge 15, 3) := by decide +kernel
theorem dX8_here_49 : decode cX8_here 49 = .ok (.aload_n 0, 1) := by decide +kernel
theorem dX8_here_50 : decode cX8_here 50 = .ok (.getfield 19, 3) := by decide +kernel
theorem dX8_here_53 : decode cX8_here 53 = .ok (.aload_n 0, 1) := by decide +kernel
theorem dX8_here_54 : decode cX8_here 54 = .ok (.getfield 96, 3) := by decide +kernel
theorem dX8_here_57 : decode cX8_here 57 = .ok (.iaload, 1) := by decide +kernel
theorem dX8_here_58 : decode cX8_here 58 = .ok (.goto 4, 3) := by decide +kernel
theorem dX8_here_61 : decode cX8_here 61 = .ok (.iconst (-1), 1) := by decide +kernel
theorem dX8_here_62 : decode cX8_here 62 = .ok (.ireturn, 1) := by decide +kernel
theorem dX8_fails_0 : decode cX8_fails 0 = .ok (.aload_n 0, 1) := by decide +kernel
theorem dX8_fails_1 : decode cX8_fails 1 = .ok (.iload_n 2, 1) := by decide +kernel
theorem dX8_fails_2 : decode cX8_fails 2 = .ok (.putfield 22, 3) := by decide +kernel
theorem dX8_fails_5 : decode cX8_fails 5 = .ok (.iload_n 1, 1) := by decide +kernel
theorem dX8_fails_6 : decode cX8_fails 6 = .ok (.ireturn, 1) := by decide +kernel
theorem dX8_takeNumber_0 : decode cX8_takeNumber 0 = .ok (.aload_n 0, 1) := by decide +kernel
theorem dX8_takeNumber_1 : decode cX8_takeNumber 1 = .ok (.invokevirtual 99, 3) := by decide +kernel
theorem dX8_takeNumber_4 : decode cX8_takeNumber 4 = .ok (.istore_n 3, 1) := by decide +kernel
theorem dX8_takeNumber_5 : decode cX8_takeNumber 5 = .ok (.iload_n 3, 1) := by decide +kernel
theorem dX8_takeNumber_6 : decode cX8_takeNumber 6 = .ok (.i2l, 1) := by decide +kernel
theorem dX8_takeNumber_7 : decode cX8_takeNumber 7 = .ok (.ldc2_w 103, 3) := by decide +kernel
theorem dX8_takeNumber_10 : decode cX8_takeNumber 10 = .ok (.ldc2_w 105, 3) := by decide +kernel
theorem dX8_takeNumber_13 : decode cX8_takeNumber 13 = .ok (.invokestatic 78, 3) := by decide +kernel
theorem dX8_takeNumber_16 : decode cX8_takeNumber 16 = .ok (.ifCond .ne 13, 3) := by decide +kernel
theorem dX8_takeNumber_19 : decode cX8_takeNumber 19 = .ok (.aload_n 0, 1) := by decide +kernel
theorem dX8_takeNumber_20 : decode cX8_takeNumber 20 = .ok (.iconst 1, 1) := by decide +kernel
theorem dX8_takeNumber_21 : decode cX8_takeNumber 21 = .ok (.aload_n 0, 1) := by decide +kernel
theorem dX8_takeNumber_22 : decode cX8_takeNumber 22 = .ok (.getfield 96, 3) := by decide +kernel
theorem dX8_takeNumber_25 : decode cX8_takeNumber 25 = .ok (.invokevirtual 107, 3) := by decide +kernel
theorem dX8_takeNumber_28 : decode cX8_takeNumber 28 = .ok (.ireturn, 1) := by decide +kernel
theorem dX8_takeNumber_29 : decode cX8_takeNumber 29 = .ok (.aload_n 0, 1) := by decide +kernel
theorem dX8_takeNumber_30 : decode cX8_takeNumber 30 = .ok (.aload_n 0, 1) := by decide +kernel
theorem dX8_takeNumber_31 : decode cX8_takeNumber 31 = .ok (.getfield 96, 3) := by decide +kernel
theorem dX8_takeNumber_34 : decode cX8_takeNumber 34 = .ok (.putfield 111, 3) := by decide +kernel
theorem dX8_takeNumber_37 : decode cX8_takeNumber 37 = .ok (.aload_n 0, 1) := by decide +kernel
theorem dX8_takeNumber_38 : decode cX8_takeNumber 38 = .ok (.iconst 0, 1) := by decide +kernel
theorem dX8_takeNumber_39 : decode cX8_takeNumber 39 = .ok (.putfield 114, 3) := by decide +kernel
theorem dX8_takeNumber_42 : decode cX8_takeNumber 42 = .ok (.aload_n 0, 1) := by decide +kernel
theorem dX8_takeNumber_43 : decode cX8_takeNumber 43 = .ok (.getfield 96, 3) := by decide +kernel
theorem dX8_takeNumber_46 : decode cX8_takeNumber 46 = .ok (.aload_n 0, 1) := by decide +kernel
theorem dX8_takeNumber_47 : decode cX8_takeNumber 47 = .ok (.getfield 92, 3) := by decide +kernel
theorem dX8_takeNumber_50 : decode cX8_takeNumber 50 = .ok (.if_icmp .ge 79, 3) := by decide +kernel
theorem dX8_takeNumber_53 : decode cX8_takeNumber 53 = .ok (.aload_n 0, 1) := by decide +kernel
theorem dX8_takeNumber_54 : decode cX8_takeNumber 54 = .ok (.getfield 19, 3) := by decide +kernel
theorem dX8_takeNumber_57 : decode cX8_takeNumber 57 = .ok (.aload_n 0, 1) := by decide +kernel
theorem dX8_takeNumber_58 : decode cX8_takeNumber 58 = .ok (.getfield 96, 3) := by decide +kernel
theorem dX8_takeNumber_61 : decode cX8_takeNumber 61 = .ok (.iaload, 1) := by decide +kernel
theorem dX8_takeNumber_62 : decode cX8_takeNumber 62 = .ok (.i2l, 1) := by decide +kernel
theorem dX8_takeNumber_63 : decode cX8_takeNumber 63 = .ok (.ldc2_w 103, 3) := by decide +kernel
theorem dX8_takeNumber_66 : decode cX8_takeNumber 66 = .ok (.ldc2_w 105, 3) := by decide +kernel
theorem dX8_takeNumber_69 : decode cX8_takeNumber 69 = .ok (.invokestatic 78, 3) := by decide +kernel
theorem dX8_takeNumber_72 : decode cX8_takeNumber 72 = .ok (.ifCond .eq 57, 3) := by decide +kernel
theorem dX8_takeNumber_75 : decode cX8_takeNumber 75 = .ok (.aload_n 0, 1) := by decide +kernel
theorem dX8_takeNumber_76 : decode cX8_takeNumber 76 = .ok (.aload_n 0, 1) := by decide +kernel
theorem dX8_takeNumber_77 : decode cX8_takeNumber 77 = .ok (.getfield 114, 3) := by decide +kernel
theorem dX8_takeNumber_80 : decode cX8_takeNumber 80 = .ok (.sipush 10000, 3) := by decide +kernel
theorem dX8_takeNumber_83 : decode cX8_takeNumber 83 = .ok (.if_icmp .le 10, 3) := by decide +kernel
theorem dX8_takeNumber_86 : decode cX8_takeNumber 86 = .ok (.aload_n 0, 1) := by decide +kernel
theorem dX8_takeNumber_87 : decode cX8_takeNumber 87 = .ok (.getfield 114, 3) := by decide +kernel
theorem dX8_takeNumber_90 : decode cX8_takeNumber 90 = .ok (.goto 23, 3) := by decide +kernel
theorem dX8_takeNumber_93 : decode cX8_takeNumber 93 = .ok (.bipush 10, 2) := by decide +kernel
theorem dX8_takeNumber_95 : decode cX8_takeNumber 95 = .ok (.aload_n 0, 1) := by decide +kernel
theorem dX8_takeNumber_96 : decode cX8_takeNumber 96 = .ok (.getfield 114, 3) := by decide +kernel
theorem dX8_takeNumber_99 : decode cX8_takeNumber 99 = .ok (.imul, 1) := by decide +kernel
theorem dX8_takeNumber_100 : decode cX8_takeNumber 100 = .ok (.aload_n 0, 1) := by decide +kernel
theorem dX8_takeNumber_101 : decode cX8_takeNumber 101 = .ok (.getfield 19, 3) := by decide +kernel
theorem dX8_takeNumber_104 : decode cX8_takeNumber 104 = .ok (.aload_n 0, 1) := by decide +kernel
theorem dX8_takeNumber_105 : decode cX8_takeNumber 105 = .ok (.getfield 96, 3) := by decide +kernel
theorem dX8_takeNumber_108 : decode cX8_takeNumber 108 = .ok (.iaload, 1) := by decide +kernel
theorem dX8_takeNumber_109 : decode cX8_takeNumber 109 = .ok (.iadd, 1) := by decide +kernel
theorem dX8_takeNumber_110 : decode cX8_takeNumber 110 = .ok (.bipush 48, 2) := by decide +kernel
theorem dX8_takeNumber_112 : decode cX8_takeNumber 112 = .ok (.isub, 1) := by decide +kernel
theorem dX8_takeNumber_113 : decode cX8_takeNumber 113 = .ok (.putfield 114, 3) := by decide +kernel
theorem dX8_takeNumber_116 : decode cX8_takeNumber 116 = .ok (.aload_n 0, 1) := by decide +kernel
theorem dX8_takeNumber_117 : decode cX8_takeNumber 117 = .ok (.dup, 1) := by decide +kernel
theorem dX8_takeNumber_118 : decode cX8_takeNumber 118 = .ok (.getfield 96, 3) := by decide +kernel
theorem dX8_takeNumber_121 : decode cX8_takeNumber 121 = .ok (.iconst 1, 1) := by decide +kernel
theorem dX8_takeNumber_122 : decode cX8_takeNumber 122 = .ok (.iadd, 1) := by decide +kernel
theorem dX8_takeNumber_123 : decode cX8_takeNumber 123 = .ok (.putfield 96, 3) := by decide +kernel
theorem dX8_takeNumber_126 : decode cX8_takeNumber 126 = .ok (.goto (-84), 3) := by decide +kernel
theorem dX8_takeNumber_129 : decode cX8_takeNumber 129 = .ok (.aload_n 0, 1) := by decide +kernel
theorem dX8_takeNumber_130 : decode cX8_takeNumber 130 = .ok (.getfield 96, 3) := by decide +kernel
theorem dX8_takeNumber_133 : decode cX8_takeNumber 133 = .ok (.aload_n 0, 1) := by decide +kernel
theorem dX8_takeNumber_134 : decode cX8_takeNumber 134 = .ok (.getfield 111, 3) := by decide +kernel
theorem dX8_takeNumber_137 : decode cX8_takeNumber 137 = .ok (.isub, 1) := by decide +kernel
theorem dX8_takeNumber_138 : decode cX8_takeNumber 138 = .ok (.iconst 3, 1) := by decide +kernel
theorem dX8_takeNumber_139 : decode cX8_takeNumber 139 = .ok (.if_icmp .gt 18, 3) := by decide +kernel
theorem dX8_takeNumber_142 : decode cX8_takeNumber 142 = .ok (.aload_n 0, 1) := by decide +kernel
theorem dX8_takeNumber_143 : decode cX8_takeNumber 143 = .ok (.getfield 114, 3) := by decide +kernel
theorem dX8_takeNumber_146 : decode cX8_takeNumber 146 = .ok (.i2l, 1) := by decide +kernel
theorem dX8_takeNumber_147 : decode cX8_takeNumber 147 = .ok (.iload_n 1, 1) := by decide +kernel
theorem dX8_takeNumber_148 : decode cX8_takeNumber 148 = .ok (.i2l, 1) := by decide +kernel
theorem dX8_takeNumber_149 : decode cX8_takeNumber 149 = .ok (.iload_n 2, 1) := by decide +kernel
theorem dX8_takeNumber_150 : decode cX8_takeNumber 150 = .ok (.i2l, 1) := by decide +kernel
theorem dX8_takeNumber_151 : decode cX8_takeNumber 151 = .ok (.invokestatic 78, 3) := by decide +kernel
theorem dX8_takeNumber_154 : decode cX8_takeNumber 154 = .ok (.ifCond .ne 15, 3) := by decide +kernel
theorem dX8_takeNumber_157 : decode cX8_takeNumber 157 = .ok (.aload_n 0, 1) := by decide +kernel
theorem dX8_takeNumber_158 : decode cX8_takeNumber 158 = .ok (.iconst 2, 1) := by decide +kernel
theorem dX8_takeNumber_159 : decode cX8_takeNumber 159 = .ok (.aload_n 0, 1) := by decide +kernel
theorem dX8_takeNumber_160 : decode cX8_takeNumber 160 = .ok (.getfield 111, 3) := by decide +kernel
theorem dX8_takeNumber_163 : decode cX8_takeNumber 163 = .ok (.invokevirtual 107, 3) := by decide +kernel
theorem dX8_takeNumber_166 : decode cX8_takeNumber 166 = .ok (.goto 4, 3) := by decide +kernel
theorem dX8_takeNumber_169 : decode cX8_takeNumber 169 = .ok (.iconst 0, 1) := by decide +kernel
theorem dX8_takeNumber_170 : decode cX8_takeNumber 170 = .ok (.ireturn, 1) := by decide +kernel
theorem dX8_into_0 : decode cX8_into 0 = .ok (.aload_n 0, 1) := by decide +kernel
theorem dX8_into_1 : decode cX8_into 1 = .ok (.iload_n 3, 1) := by decide +kernel
theorem dX8_into_2 : decode cX8_into 2 = .ok (.iload 4, 2) := by decide +kernel
theorem dX8_into_4 : decode cX8_into 4 = .ok (.invokevirtual 117, 3) := by decide +kernel
theorem dX8_into_7 : decode cX8_into 7 = .ok (.istore 5, 2) := by decide +kernel
theorem dX8_into_9 : decode cX8_into 9 = .ok (.aload_n 1, 1) := by decide +kernel
theorem dX8_into_10 : decode cX8_into 10 = .ok (.iload_n 2, 1) := by decide +kernel
theorem dX8_into_11 : decode cX8_into 11 = .ok (.aload_n 0, 1) := by decide +kernel
theorem dX8_into_12 : decode cX8_into 12 = .ok (.getfield 114, 3) := by decide +kernel
theorem dX8_into_15 : decode cX8_into 15 = .ok (.iastore, 1) := by decide +kernel
theorem dX8_into_16 : decode cX8_into 16 = .ok (.iload 5, 2) := by decide +kernel
theorem dX8_into_18 : decode cX8_into 18 = .ok (.ireturn, 1) := by decide +kernel
theorem dX8_takeRules_0 : decode cX8_takeRules 0 = .ok (.aload_n 0, 1) := by decide +kernel
theorem dX8_takeRules_1 : decode cX8_takeRules 1 = .ok (.iconst 1, 1) := by decide +kernel
theorem dX8_takeRules_2 : decode cX8_takeRules 2 = .ok (.putfield 120, 3) := by decide +kernel
theorem dX8_takeRules_5 : decode cX8_takeRules 5 = .ok (.aload_n 0, 1) := by decide +kernel
theorem dX8_takeRules_6 : decode cX8_takeRules 6 = .ok (.aload_n 0, 1) := by decide +kernel
theorem dX8_takeRules_7 : decode cX8_takeRules 7 = .ok (.getfield 26, 3) := by decide +kernel
theorem dX8_takeRules_10 : decode cX8_takeRules 10 = .ok (.iconst 0, 1) := by decide +kernel
theorem dX8_takeRules_11 : decode cX8_takeRules 11 = .ok (.iconst 0, 1) := by decide +kernel
theorem dX8_takeRules_12 : decode cX8_takeRules 12 = .ok (.iconst 4, 1) := by decide +kernel
theorem dX8_takeRules_13 : decode cX8_takeRules 13 = .ok (.invokevirtual 124, 3) := by decide +kernel
theorem dX8_takeRules_16 : decode cX8_takeRules 16 = .ok (.istore_n 1, 1) := by decide +kernel
theorem dX8_takeRules_17 : decode cX8_takeRules 17 = .ok (.iload_n 1, 1) := by decide +kernel
theorem dX8_takeRules_18 : decode cX8_takeRules 18 = .ok (.ifCond .le 7, 3) := by decide +kernel
theorem dX8_takeRules_21 : decode cX8_takeRules 21 = .ok (.iload_n 1, 1) := by decide +kernel
theorem dX8_takeRules_22 : decode cX8_takeRules 22 = .ok (.goto 14, 3) := by decide +kernel
theorem dX8_takeRules_25 : decode cX8_takeRules 25 = .ok (.aload_n 0, 1) := by decide +kernel
theorem dX8_takeRules_26 : decode cX8_takeRules 26 = .ok (.aload_n 0, 1) := by decide +kernel
theorem dX8_takeRules_27 : decode cX8_takeRules 27 = .ok (.getfield 26, 3) := by decide +kernel
theorem dX8_takeRules_30 : decode cX8_takeRules 30 = .ok (.iconst 1, 1) := by decide +kernel
theorem dX8_takeRules_31 : decode cX8_takeRules 31 = .ok (.iconst 0, 1) := by decide +kernel
theorem dX8_takeRules_32 : decode cX8_takeRules 32 = .ok (.iconst 1, 1) := by decide +kernel
theorem dX8_takeRules_33 : decode cX8_takeRules 33 = .ok (.invokevirtual 124, 3) := by decide +kernel
theorem dX8_takeRules_36 : decode cX8_takeRules 36 = .ok (.istore_n 1, 1) := by decide +kernel
theorem dX8_takeRules_37 : decode cX8_takeRules 37 = .ok (.iload_n 1, 1) := by decide +kernel
theorem dX8_takeRules_38 : decode cX8_takeRules 38 = .ok (.ifCond .le 7, 3) := by decide +kernel
theorem dX8_takeRules_41 : decode cX8_takeRules 41 = .ok (.iload_n 1, 1) := by decide +kernel
theorem dX8_takeRules_42 : decode cX8_takeRules 42 = .ok (.goto 14, 3) := by decide +kernel
theorem dX8_takeRules_45 : decode cX8_takeRules 45 = .ok (.aload_n 0, 1) := by decide +kernel
theorem dX8_takeRules_46 : decode cX8_takeRules 46 = .ok (.aload_n 0, 1) := by decide +kernel
theorem dX8_takeRules_47 : decode cX8_takeRules 47 = .ok (.getfield 26, 3) := by decide +kernel
theorem dX8_takeRules_50 : decode cX8_takeRules 50 = .ok (.iconst 2, 1) := by decide +kernel
theorem dX8_takeRules_51 : decode cX8_takeRules 51 = .ok (.iconst 0, 1) := by decide +kernel
theorem dX8_takeRules_52 : decode cX8_takeRules 52 = .ok (.iconst 1, 1) := by decide +kernel
theorem dX8_takeRules_53 : decode cX8_takeRules 53 = .ok (.invokevirtual 124, 3) := by decide +kernel
theorem dX8_takeRules_56 : decode cX8_takeRules 56 = .ok (.ireturn, 1) := by decide +kernel
theorem dX8_takeCard_0 : decode cX8_takeCard 0 = .ok (.aload_n 0, 1) := by decide +kernel
theorem dX8_takeCard_1 : decode cX8_takeCard 1 = .ok (.getfield 128, 3) := by decide +kernel
theorem dX8_takeCard_4 : decode cX8_takeCard 4 = .ok (.istore_n 1, 1) := by decide +kernel
theorem dX8_takeCard_5 : decode cX8_takeCard 5 = .ok (.aload_n 0, 1) := by decide +kernel
theorem dX8_takeCard_6 : decode cX8_takeCard 6 = .ok (.dup, 1) := by decide +kernel
theorem dX8_takeCard_7 : decode cX8_takeCard 7 = .ok (.getfield 128, 3) := by decide +kernel
theorem dX8_takeCard_10 : decode cX8_takeCard 10 = .ok (.iconst 1, 1) := by decide +kernel
theorem dX8_takeCard_11 : decode cX8_takeCard 11 = .ok (.iadd, 1) := by decide +kernel
theorem dX8_takeCard_12 : decode cX8_takeCard 12 = .ok (.putfield 128, 3) := by decide +kernel
theorem dX8_takeCard_15 : decode cX8_takeCard 15 = .ok (.aload_n 0, 1) := by decide +kernel
theorem dX8_takeCard_16 : decode cX8_takeCard 16 = .ok (.aload_n 0, 1) := by decide +kernel
theorem dX8_takeCard_17 : decode cX8_takeCard 17 = .ok (.getfield 29, 3) := by decide +kernel
theorem dX8_takeCard_20 : decode cX8_takeCard 20 = .ok (.iload_n 1, 1) := by decide +kernel
theorem dX8_takeCard_21 : decode cX8_takeCard 21 = .ok (.iconst 1, 1) := by decide +kernel
theorem dX8_takeCard_22 : decode cX8_takeCard 22 = .ok (.bipush 13, 2) := by decide +kernel
theorem dX8_takeCard_24 : decode cX8_takeCard 24 = .ok (.invokevirtual 124, 3) := by decide +kernel
theorem dX8_takeCard_27 : decode cX8_takeCard 27 = .ok (.istore_n 2, 1) := by decide +kernel
theorem dX8_takeCard_28 : decode cX8_takeCard 28 = .ok (.iload_n 2, 1) := by decide +kernel
theorem dX8_takeCard_29 : decode cX8_takeCard 29 = .ok (.ifCond .le 7, 3) := by decide +kernel
theorem dX8_takeCard_32 : decode cX8_takeCard 32 = .ok (.iload_n 2, 1) := by decide +kernel
theorem dX8_takeCard_33 : decode cX8_takeCard 33 = .ok (.goto 14, 3) := by decide +kernel
theorem dX8_takeCard_36 : decode cX8_takeCard 36 = .ok (.aload_n 0, 1) := by decide +kernel
theorem dX8_takeCard_37 : decode cX8_takeCard 37 = .ok (.aload_n 0, 1) := by decide +kernel
theorem dX8_takeCard_38 : decode cX8_takeCard 38 = .ok (.getfield 32, 3) := by decide +kernel
theorem dX8_takeCard_41 : decode cX8_takeCard 41 = .ok (.iload_n 1, 1) := by decide +kernel
theorem dX8_takeCard_42 : decode cX8_takeCard 42 = .ok (.iconst 0, 1) := by decide +kernel
theorem dX8_takeCard_43 : decode cX8_takeCard 43 = .ok (.iconst 3, 1) := by decide +kernel
theorem dX8_takeCard_44 : decode cX8_takeCard 44 = .ok (.invokevirtual 124, 3) := by decide +kernel
theorem dX8_takeCard_47 : decode cX8_takeCard 47 = .ok (.istore_n 2, 1) := by decide +kernel
theorem dX8_takeCard_48 : decode cX8_takeCard 48 = .ok (.iconst 0, 1) := by decide +kernel
theorem dX8_takeCard_49 : decode cX8_takeCard 49 = .ok (.istore_n 3, 1) := by decide +kernel
theorem dX8_takeCard_50 : decode cX8_takeCard 50 = .ok (.iload_n 3, 1) := by decide +kernel
theorem dX8_takeCard_51 : decode cX8_takeCard 51 = .ok (.iload_n 1, 1) := by decide +kernel
theorem dX8_takeCard_52 : decode cX8_takeCard 52 = .ok (.if_icmp .ge 53, 3) := by decide +kernel
theorem dX8_takeCard_55 : decode cX8_takeCard 55 = .ok (.iload_n 2, 1) := by decide +kernel
theorem dX8_takeCard_56 : decode cX8_takeCard 56 = .ok (.ifCond .ne 49, 3) := by decide +kernel
theorem dX8_takeCard_59 : decode cX8_takeCard 59 = .ok (.aload_n 0, 1) := by decide +kernel
theorem dX8_takeCard_60 : decode cX8_takeCard 60 = .ok (.getfield 29, 3) := by decide +kernel
theorem dX8_takeCard_63 : decode cX8_takeCard 63 = .ok (.iload_n 3, 1) := by decide +kernel
theorem dX8_takeCard_64 : decode cX8_takeCard 64 = .ok (.iaload, 1) := by decide +kernel
theorem dX8_takeCard_65 : decode cX8_takeCard 65 = .ok (.aload_n 0, 1) := by decide +kernel
theorem dX8_takeCard_66 : decode cX8_takeCard 66 = .ok (.getfield 29, 3) := by decide +kernel
theorem dX8_takeCard_69 : decode cX8_takeCard 69 = .ok (.iload_n 1, 1) := by decide +kernel
theorem dX8_takeCard_70 : decode cX8_takeCard 70 = .ok (.iaload, 1) := by decide +kernel
theorem dX8_takeCard_71 : decode cX8_takeCard 71 = .ok (.if_icmp .ne 28, 3) := by decide +kernel
theorem dX8_takeCard_74 : decode cX8_takeCard 74 = .ok (.aload_n 0, 1) := by decide +kernel
theorem dX8_takeCard_75 : decode cX8_takeCard 75 = .ok (.getfield 32, 3) := by decide +kernel
theorem dX8_takeCard_78 : decode cX8_takeCard 78 = .ok (.iload_n 3, 1) := by decide +kernel
theorem dX8_takeCard_79 : decode cX8_takeCard 79 = .ok (.iaload, 1) := by decide +kernel
theorem dX8_takeCard_80 : decode cX8_takeCard 80 = .ok (.aload_n 0, 1) := by decide +kernel
theorem dX8_takeCard_81 : decode cX8_takeCard 81 = .ok (.getfield 32, 3) := by decide +kernel
theorem dX8_takeCard_84 : decode cX8_takeCard 84 = .ok (.iload_n 1, 1) := by decide +kernel
theorem dX8_takeCard_85 : decode cX8_takeCard 85 = .ok (.iaload, 1) := by decide +kernel
theorem dX8_takeCard_86 : decode cX8_takeCard 86 = .ok (.if_icmp .ne 13, 3) := by decide +kernel
theorem dX8_takeCard_89 : decode cX8_takeCard 89 = .ok (.aload_n 0, 1) := by decide +kernel
theorem dX8_takeCard_90 : decode cX8_takeCard 90 = .ok (.iconst 4, 1) := by decide +kernel
theorem dX8_takeCard_91 : decode cX8_takeCard 91 = .ok (.aload_n 0, 1) := by decide +kernel
theorem dX8_takeCard_92 : decode cX8_takeCard 92 = .ok (.getfield 111, 3) := by decide +kernel
theorem dX8_takeCard_95 : decode cX8_takeCard 95 = .ok (.invokevirtual 107, 3) := by decide +kernel
theorem dX8_takeCard_98 : decode cX8_takeCard 98 = .ok (.ireturn, 1) := by decide +kernel
theorem dX8_takeCard_99 : decode cX8_takeCard 99 = .ok (.iinc 3 1, 3) := by decide +kernel
theorem dX8_takeCard_102 : decode cX8_takeCard 102 = .ok (.goto (-52), 3) := by decide +kernel
theorem dX8_takeCard_105 : decode cX8_takeCard 105 = .ok (.iload_n 2, 1) := by decide +kernel
theorem dX8_takeCard_106 : decode cX8_takeCard 106 = .ok (.ireturn, 1) := by decide +kernel
theorem dX8_takePerson_0 : decode cX8_takePerson 0 = .ok (.aload_n 0, 1) := by decide +kernel
theorem dX8_takePerson_1 : decode cX8_takePerson 1 = .ok (.dup, 1) := by decide +kernel
theorem dX8_takePerson_2 : decode cX8_takePerson 2 = .ok (.getfield 131, 3) := by decide +kernel
theorem dX8_takePerson_5 : decode cX8_takePerson 5 = .ok (.iconst 1, 1) := by decide +kernel
theorem dX8_takePerson_6 : decode cX8_takePerson 6 = .ok (.iadd, 1) := by decide +kernel
theorem dX8_takePerson_7 : decode cX8_takePerson 7 = .ok (.putfield 131, 3) := by decide +kernel
theorem dX8_takePerson_10 : decode cX8_takePerson 10 = .ok (.iconst 0, 1) := by decide +kernel
theorem dX8_takePerson_11 : decode cX8_takePerson 11 = .ok (.ireturn, 1) := by decide +kernel
theorem dX8_takeClause_0 : decode cX8_takeClause 0 = .ok (.aload_n 0, 1) := by decide +kernel
theorem dX8_takeClause_1 : decode cX8_takeClause 1 = .ok (.invokevirtual 99, 3) := by decide +kernel
theorem dX8_takeClause_4 : decode cX8_takeClause 4 = .ok (.istore_n 1, 1) := by decide +kernel
theorem dX8_takeClause_5 : decode cX8_takeClause 5 = .ok (.iload_n 1, 1) := by decide +kernel
theorem dX8_takeClause_6 : decode cX8_takeClause 6 = .ok (.bipush 114, 2) := by decide +kernel
theorem dX8_takeClause_8 : decode cX8_takeClause 8 = .ok (.if_icmp .ne 7, 3) := by decide +kernel
theorem dX8_takeClause_11 : decode cX8_takeClause 11 = .ok (.iconst 0, 1) := by decide +kernel
theorem dX8_takeClause_12 : decode cX8_takeClause 12 = .ok (.goto 24, 3) := by decide +kernel
theorem dX8_takeClause_15 : decode cX8_takeClause 15 = .ok (.iload_n 1, 1) := by decide +kernel
theorem dX8_takeClause_16 : decode cX8_takeClause 16 = .ok (.bipush 99, 2) := by decide +kernel
theorem dX8_takeClause_18 : decode cX8_takeClause 18 = .ok (.if_icmp .ne 7, 3) := by decide +kernel
theorem dX8_takeClause_21 : decode cX8_takeClause 21 = .ok (.iconst 1, 1) := by decide +kernel
theorem dX8_takeClause_22 : decode cX8_takeClause 22 = .ok (.goto 14, 3) := by decide +kernel
theorem dX8_takeClause_25 : decode cX8_takeClause 25 = .ok (.iload_n 1, 1) := by decide +kernel
theorem dX8_takeClause_26 : decode cX8_takeClause 26 = .ok (.bipush 112, 2) := by decide +kernel
theorem dX8_takeClause_28 : decode cX8_takeClause 28 = .ok (.if_icmp .ne 7, 3) := by decide +kernel
theorem dX8_takeClause_31 : decode cX8_takeClause 31 = .ok (.iconst 2, 1) := by decide +kernel
theorem dX8_takeClause_32 : decode cX8_takeClause 32 = .ok (.goto 4, 3) := by decide +kernel
theorem dX8_takeClause_35 : decode cX8_takeClause 35 = .ok (.iconst (-1), 1) := by decide +kernel
theorem dX8_takeClause_36 : decode cX8_takeClause 36 = .ok (.istore_n 2, 1) := by decide +kernel
theorem dX8_takeClause_37 : decode cX8_takeClause 37 = .ok (.iload_n 2, 1) := by decide +kernel
theorem dX8_takeClause_38 : decode cX8_takeClause 38 = .ok (.ifCond .lt 14, 3) := by decide +kernel
theorem dX8_takeClause_41 : decode cX8_takeClause 41 = .ok (.iload_n 2, 1) := by decide +kernel
theorem dX8_takeClause_42 : decode cX8_takeClause 42 = .ok (.ifCond .le 20, 3) := by decide +kernel
theorem dX8_takeClause_45 : decode cX8_takeClause 45 = .ok (.aload_n 0, 1) := by decide +kernel
theorem dX8_takeClause_46 : decode cX8_takeClause 46 = .ok (.getfield 120, 3) := by decide +kernel
theorem dX8_takeClause_49 : decode cX8_takeClause 49 = .ok (.ifCond .ne 13, 3) := by decide +kernel
theorem dX8_takeClause_52 : decode cX8_takeClause 52 = .ok (.aload_n 0, 1) := by decide +kernel
theorem dX8_takeClause_53 : decode cX8_takeClause 53 = .ok (.iconst 1, 1) := by decide +kernel
theorem dX8_takeClause_54 : decode cX8_takeClause 54 = .ok (.aload_n 0, 1) := by decide +kernel
theorem dX8_takeClause_55 : decode cX8_takeClause 55 = .ok (.getfield 96, 3) := by decide +kernel
theorem dX8_takeClause_58 : decode cX8_takeClause 58 = .ok (.invokevirtual 107, 3) := by decide +kernel
theorem dX8_takeClause_61 : decode cX8_takeClause 61 = .ok (.ireturn, 1) := by decide +kernel
theorem dX8_takeClause_62 : decode cX8_takeClause 62 = .ok (.iload_n 2, 1) := by decide +kernel
theorem dX8_takeClause_63 : decode cX8_takeClause 63 = .ok (.ifCond .ne 10, 3) := by decide +kernel
theorem dX8_takeClause_66 : decode cX8_takeClause 66 = .ok (.aload_n 0, 1) := by decide +kernel
theorem dX8_takeClause_67 : decode cX8_takeClause 67 = .ok (.getfield 120, 3) := by decide +kernel
theorem dX8_takeClause_70 : decode cX8_takeClause 70 = .ok (.goto 39, 3) := by decide +kernel
theorem dX8_takeClause_73 : decode cX8_takeClause 73 = .ok (.iload_n 2, 1) := by decide +kernel
theorem dX8_takeClause_74 : decode cX8_takeClause 74 = .ok (.iconst 1, 1) := by decide +kernel
theorem dX8_takeClause_75 : decode cX8_takeClause 75 = .ok (.if_icmp .ne 20, 3) := by decide +kernel
theorem dX8_takeClause_78 : decode cX8_takeClause 78 = .ok (.aload_n 0, 1) := by decide +kernel
theorem dX8_takeClause_79 : decode cX8_takeClause 79 = .ok (.getfield 128, 3) := by decide +kernel
theorem dX8_takeClause_82 : decode cX8_takeClause 82 = .ok (.bipush 12, 2) := by decide +kernel
theorem dX8_takeClause_84 : decode cX8_takeClause 84 = .ok (.if_icmp .ne 7, 3) := by decide +kernel
theorem dX8_takeClause_87 : decode cX8_takeClause 87 = .ok (.iconst 1, 1) := by decide +kernel
theorem dX8_takeClause_88 : decode cX8_takeClause 88 = .ok (.goto 21, 3) := by decide +kernel
theorem dX8_takeClause_91 : decode cX8_takeClause 91 = .ok (.iconst 0, 1) := by decide +kernel
theorem dX8_takeClause_92 : decode cX8_takeClause 92 = .ok (.goto 17, 3) := by decide +kernel
theorem dX8_takeClause_95 : decode cX8_takeClause 95 = .ok (.aload_n 0, 1) := by decide +kernel
theorem dX8_takeClause_96 : decode cX8_takeClause 96 = .ok (.getfield 131, 3) := by decide +kernel
theorem dX8_takeClause_99 : decode cX8_takeClause 99 = .ok (.bipush 6, 2) := by decide +kernel
theorem dX8_takeClause_101 : decode cX8_takeClause 101 = .ok (.if_icmp .ne 7, 3) := by decide +kernel
theorem dX8_takeClause_104 : decode cX8_takeClause 104 = .ok (.iconst 1, 1) := by decide +kernel
theorem dX8_takeClause_105 : decode cX8_takeClause 105 = .ok (.goto 4, 3) := by decide +kernel
theorem dX8_takeClause_108 : decode cX8_takeClause 108 = .ok (.iconst 0, 1) := by decide +kernel
theorem dX8_takeClause_109 : decode cX8_takeClause 109 = .ok (.istore_n 3, 1) := by decide +kernel
theorem dX8_takeClause_110 : decode cX8_takeClause 110 = .ok (.iload_n 3, 1) := by decide +kernel
theorem dX8_takeClause_111 : decode cX8_takeClause 111 = .ok (.ifCond .eq 13, 3) := by decide +kernel
theorem dX8_takeClause_114 : decode cX8_takeClause 114 = .ok (.aload_n 0, 1) := by decide +kernel
theorem dX8_takeClause_115 : decode cX8_takeClause 115 = .ok (.iconst 3, 1) := by decide +kernel
theorem dX8_takeClause_116 : decode cX8_takeClause 116 = .ok (.aload_n 0, 1) := by decide +kernel
theorem dX8_takeClause_117 : decode cX8_takeClause 117 = .ok (.getfield 96, 3) := by decide +kernel
theorem dX8_takeClause_120 : decode cX8_takeClause 120 = .ok (.invokevirtual 107, 3) := by decide +kernel
theorem dX8_takeClause_123 : decode cX8_takeClause 123 = .ok (.ireturn, 1) := by decide +kernel
theorem dX8_takeClause_124 : decode cX8_takeClause 124 = .ok (.aload_n 0, 1) := by decide +kernel
theorem dX8_takeClause_125 : decode cX8_takeClause 125 = .ok (.dup, 1) := by decide +kernel
theorem dX8_takeClause_126 : decode cX8_takeClause 126 = .ok (.getfield 96, 3) := by decide +kernel
theorem dX8_takeClause_129 : decode cX8_takeClause 129 = .ok (.iconst 1, 1) := by decide +kernel
theorem dX8_takeClause_130 : decode cX8_takeClause 130 = .ok (.iadd, 1) := by decide +kernel
theorem dX8_takeClause_131 : decode cX8_takeClause 131 = .ok (.putfield 96, 3) := by decide +kernel
theorem dX8_takeClause_134 : decode cX8_takeClause 134 = .ok (.iload_n 2, 1) := by decide +kernel
theorem dX8_takeClause_135 : decode cX8_takeClause 135 = .ok (.ifCond .ne 10, 3) := by decide +kernel
theorem dX8_takeClause_138 : decode cX8_takeClause 138 = .ok (.aload_n 0, 1) := by decide +kernel
theorem dX8_takeClause_139 : decode cX8_takeClause 139 = .ok (.invokevirtual 134, 3) := by decide +kernel
theorem dX8_takeClause_142 : decode cX8_takeClause 142 = .ok (.goto 19, 3) := by decide +kernel
theorem dX8_takeClause_145 : decode cX8_takeClause 145 = .ok (.iload_n 2, 1) := by decide +kernel
theorem dX8_takeClause_146 : decode cX8_takeClause 146 = .ok (.iconst 1, 1) := by decide +kernel
theorem dX8_takeClause_147 : decode cX8_takeClause 147 = .ok (.if_icmp .ne 10, 3) := by decide +kernel
theorem dX8_takeClause_150 : decode cX8_takeClause 150 = .ok (.aload_n 0, 1) := by decide +kernel
theorem dX8_takeClause_151 : decode cX8_takeClause 151 = .ok (.invokevirtual 137, 3) := by decide +kernel
theorem dX8_takeClause_154 : decode cX8_takeClause 154 = .ok (.goto 7, 3) := by decide +kernel
theorem dX8_takeClause_157 : decode cX8_takeClause 157 = .ok (.aload_n 0, 1) := by decide +kernel
theorem dX8_takeClause_158 : decode cX8_takeClause 158 = .ok (.invokevirtual 140, 3) := by decide +kernel
theorem dX8_takeClause_161 : decode cX8_takeClause 161 = .ok (.istore 4, 2) := by decide +kernel
theorem dX8_takeClause_163 : decode cX8_takeClause 163 = .ok (.iload 4, 2) := by decide +kernel
theorem dX8_takeClause_165 : decode cX8_takeClause 165 = .ok (.ifCond .ne 22, 3) := by decide +kernel
theorem dX8_takeClause_168 : decode cX8_takeClause 168 = .ok (.aload_n 0, 1) := by decide +kernel
theorem dX8_takeClause_169 : decode cX8_takeClause 169 = .ok (.invokevirtual 99, 3) := by decide +kernel
theorem dX8_takeClause_172 : decode cX8_takeClause 172 = .ok (.bipush 59, 2) := by decide +kernel
theorem dX8_takeClause_174 : decode cX8_takeClause 174 = .ok (.if_icmp .eq 13, 3) := by decide +kernel
theorem dX8_takeClause_177 : decode cX8_takeClause 177 = .ok (.aload_n 0, 1) := by decide +kernel
theorem dX8_takeClause_178 : decode cX8_takeClause 178 = .ok (.iconst 1, 1) := by decide +kernel
theorem dX8_takeClause_179 : decode cX8_takeClause 179 = .ok (.aload_n 0, 1) := by decide +kernel
theorem dX8_takeClause_180 : decode cX8_takeClause 180 = .ok (.getfield 96, 3) := by decide +kernel
theorem dX8_takeClause_183 : decode cX8_takeClause 183 = .ok (.invokevirtual 107, 3) := by decide +kernel
theorem dX8_takeClause_186 : decode cX8_takeClause 186 = .ok (.ireturn, 1) := by decide +kernel
theorem dX8_takeClause_187 : decode cX8_takeClause 187 = .ok (.aload_n 0, 1) := by decide +kernel
theorem dX8_takeClause_188 : decode cX8_takeClause 188 = .ok (.dup, 1) := by decide +kernel
theorem dX8_takeClause_189 : decode cX8_takeClause 189 = .ok (.getfield 96, 3) := by decide +kernel
theorem dX8_takeClause_192 : decode cX8_takeClause 192 = .ok (.iconst 1, 1) := by decide +kernel
theorem dX8_takeClause_193 : decode cX8_takeClause 193 = .ok (.iadd, 1) := by decide +kernel
theorem dX8_takeClause_194 : decode cX8_takeClause 194 = .ok (.putfield 96, 3) := by decide +kernel
theorem dX8_takeClause_197 : decode cX8_takeClause 197 = .ok (.iload 4, 2) := by decide +kernel
theorem dX8_takeClause_199 : decode cX8_takeClause 199 = .ok (.ireturn, 1) := by decide +kernel
theorem dX8_takeRead_0 : decode cX8_takeRead 0 = .ok (.aload_n 0, 1) := by decide +kernel
theorem dX8_takeRead_1 : decode cX8_takeRead 1 = .ok (.aload_n 0, 1) := by decide +kernel
theorem dX8_takeRead_2 : decode cX8_takeRead 2 = .ok (.getfield 120, 3) := by decide +kernel
theorem dX8_takeRead_5 : decode cX8_takeRead 5 = .ok (.putfield 143, 3) := by decide +kernel
theorem dX8_takeRead_8 : decode cX8_takeRead 8 = .ok (.aload_n 0, 1) := by decide +kernel
theorem dX8_takeRead_9 : decode cX8_takeRead 9 = .ok (.aload_n 0, 1) := by decide +kernel
theorem dX8_takeRead_10 : decode cX8_takeRead 10 = .ok (.getfield 120, 3) := by decide +kernel
theorem dX8_takeRead_13 : decode cX8_takeRead 13 = .ok (.ifCond .eq 12, 3) := by decide +kernel
theorem dX8_takeRead_16 : decode cX8_takeRead 16 = .ok (.aload_n 0, 1) := by decide +kernel
theorem dX8_takeRead_17 : decode cX8_takeRead 17 = .ok (.getfield 26, 3) := by decide +kernel
theorem dX8_takeRead_20 : decode cX8_takeRead 20 = .ok (.iconst 0, 1) := by decide +kernel
theorem dX8_takeRead_21 : decode cX8_takeRead 21 = .ok (.iaload, 1) := by decide +kernel
theorem dX8_takeRead_22 : decode cX8_takeRead 22 = .ok (.goto 4, 3) := by decide +kernel
theorem dX8_takeRead_25 : decode cX8_takeRead 25 = .ok (.iconst 0, 1) := by decide +kernel
theorem dX8_takeRead_26 : decode cX8_takeRead 26 = .ok (.putfield 146, 3) := by decide +kernel
theorem dX8_takeRead_29 : decode cX8_takeRead 29 = .ok (.aload_n 0, 1) := by decide +kernel
theorem dX8_takeRead_30 : decode cX8_takeRead 30 = .ok (.aload_n 0, 1) := by decide +kernel
theorem dX8_takeRead_31 : decode cX8_takeRead 31 = .ok (.getfield 120, 3) := by decide +kernel
theorem dX8_takeRead_34 : decode cX8_takeRead 34 = .ok (.ifCond .eq 12, 3) := by decide +kernel
theorem dX8_takeRead_37 : decode cX8_takeRead 37 = .ok (.aload_n 0, 1) := by decide +kernel
theorem dX8_takeRead_38 : decode cX8_takeRead 38 = .ok (.getfield 26, 3) := by decide +kernel
theorem dX8_takeRead_41 : decode cX8_takeRead 41 = .ok (.iconst 1, 1) := by decide +kernel
theorem dX8_takeRead_42 : decode cX8_takeRead 42 = .ok (.iaload, 1) := by decide +kernel
theorem dX8_takeRead_43 : decode cX8_takeRead 43 = .ok (.goto 4, 3) := by decide +kernel
theorem dX8_takeRead_46 : decode cX8_takeRead 46 = .ok (.iconst 0, 1) := by decide +kernel
theorem dX8_takeRead_47 : decode cX8_takeRead 47 = .ok (.putfield 149, 3) := by decide +kernel
theorem dX8_takeRead_50 : decode cX8_takeRead 50 = .ok (.aload_n 0, 1) := by decide +kernel
theorem dX8_takeRead_51 : decode cX8_takeRead 51 = .ok (.aload_n 0, 1) := by decide +kernel
theorem dX8_takeRead_52 : decode cX8_takeRead 52 = .ok (.getfield 120, 3) := by decide +kernel
theorem dX8_takeRead_55 : decode cX8_takeRead 55 = .ok (.ifCond .eq 12, 3) := by decide +kernel
theorem dX8_takeRead_58 : decode cX8_takeRead 58 = .ok (.aload_n 0, 1) := by decide +kernel
theorem dX8_takeRead_59 : decode cX8_takeRead 59 = .ok (.getfield 26, 3) := by decide +kernel
theorem dX8_takeRead_62 : decode cX8_takeRead 62 = .ok (.iconst 2, 1) := by decide +kernel
theorem dX8_takeRead_63 : decode cX8_takeRead 63 = .ok (.iaload, 1) := by decide +kernel
theorem dX8_takeRead_64 : decode cX8_takeRead 64 = .ok (.goto 4, 3) := by decide +kernel
theorem dX8_takeRead_67 : decode cX8_takeRead 67 = .ok (.iconst 0, 1) := by decide +kernel
theorem dX8_takeRead_68 : decode cX8_takeRead 68 = .ok (.putfield 152, 3) := by decide +kernel
theorem dX8_takeRead_71 : decode cX8_takeRead 71 = .ok (.aload_n 0, 1) := by decide +kernel
theorem dX8_takeRead_72 : decode cX8_takeRead 72 = .ok (.aload_n 0, 1) := by decide +kernel
theorem dX8_takeRead_73 : decode cX8_takeRead 73 = .ok (.getfield 128, 3) := by decide +kernel
theorem dX8_takeRead_76 : decode cX8_takeRead 76 = .ok (.putfield 86, 3) := by decide +kernel
theorem dX8_takeRead_79 : decode cX8_takeRead 79 = .ok (.aload_n 0, 1) := by decide +kernel
theorem dX8_takeRead_80 : decode cX8_takeRead 80 = .ok (.aload_n 0, 1) := by decide +kernel
theorem dX8_takeRead_81 : decode cX8_takeRead 81 = .ok (.getfield 131, 3) := by decide +kernel
theorem dX8_takeRead_84 : decode cX8_takeRead 84 = .ok (.putfield 75, 3) := by decide +kernel
theorem dX8_takeRead_87 : decode cX8_takeRead 87 = .ok (.iconst 0, 1) := by decide +kernel
theorem dX8_takeRead_88 : decode cX8_takeRead 88 = .ok (.istore_n 1, 1) := by decide +kernel
theorem dX8_takeRead_89 : decode cX8_takeRead 89 = .ok (.iload_n 1, 1) := by decide +kernel
theorem dX8_takeRead_90 : decode cX8_takeRead 90 = .ok (.bipush 51, 2) := by decide +kernel
theorem dX8_takeRead_92 : decode cX8_takeRead 92 = .ok (.if_icmp .ge 16, 3) := by decide +kernel
theorem dX8_takeRead_95 : decode cX8_takeRead 95 = .ok (.aload_n 0, 1) := by decide +kernel
theorem dX8_takeRead_96 : decode cX8_takeRead 96 = .ok (.getfield 16, 3) := by decide +kernel
theorem dX8_takeRead_99 : decode cX8_takeRead 99 = .ok (.iload_n 1, 1) := by decide +kernel
theorem dX8_takeRead_100 : decode cX8_takeRead 100 = .ok (.iconst 0, 1) := by decide +kernel
theorem dX8_takeRead_101 : decode cX8_takeRead 101 = .ok (.iastore, 1) := by decide +kernel
theorem dX8_takeRead_102 : decode cX8_takeRead 102 = .ok (.iinc 1 1, 3) := by decide +kernel
theorem dX8_takeRead_105 : decode cX8_takeRead 105 = .ok (.goto (-16), 3) := by decide +kernel
theorem dX8_takeRead_108 : decode cX8_takeRead 108 = .ok (.iconst 0, 1) := by decide +kernel
theorem dX8_takeRead_109 : decode cX8_takeRead 109 = .ok (.istore_n 1, 1) := by decide +kernel
theorem dX8_takeRead_110 : decode cX8_takeRead 110 = .ok (.iload_n 1, 1) := by decide +kernel
theorem dX8_takeRead_111 : decode cX8_takeRead 111 = .ok (.aload_n 0, 1) := by decide +kernel
theorem dX8_takeRead_112 : decode cX8_takeRead 112 = .ok (.getfield 86, 3) := by decide +kernel
theorem dX8_takeRead_115 : decode cX8_takeRead 115 = .ok (.if_icmp .ge 42, 3) := by decide +kernel
theorem dX8_takeRead_118 : decode cX8_takeRead 118 = .ok (.aload_n 0, 1) := by decide +kernel
theorem dX8_takeRead_119 : decode cX8_takeRead 119 = .ok (.getfield 7, 3) := by decide +kernel
theorem dX8_takeRead_122 : decode cX8_takeRead 122 = .ok (.iload_n 1, 1) := by decide +kernel
theorem dX8_takeRead_123 : decode cX8_takeRead 123 = .ok (.aload_n 0, 1) := by decide +kernel
theorem dX8_takeRead_124 : decode cX8_takeRead 124 = .ok (.getfield 29, 3) := by decide +kernel
theorem dX8_takeRead_127 : decode cX8_takeRead 127 = .ok (.iload_n 1, 1) := by decide +kernel
theorem dX8_takeRead_128 : decode cX8_takeRead 128 = .ok (.iaload, 1) := by decide +kernel
theorem dX8_takeRead_129 : decode cX8_takeRead 129 = .ok (.iastore, 1) := by decide +kernel
theorem dX8_takeRead_130 : decode cX8_takeRead 130 = .ok (.aload_n 0, 1) := by decide +kernel
theorem dX8_takeRead_131 : decode cX8_takeRead 131 = .ok (.getfield 13, 3) := by decide +kernel
theorem dX8_takeRead_134 : decode cX8_takeRead 134 = .ok (.iload_n 1, 1) := by decide +kernel
theorem dX8_takeRead_135 : decode cX8_takeRead 135 = .ok (.aload_n 0, 1) := by decide +kernel
theorem dX8_takeRead_136 : decode cX8_takeRead 136 = .ok (.getfield 32, 3) := by decide +kernel
theorem dX8_takeRead_139 : decode cX8_takeRead 139 = .ok (.iload_n 1, 1) := by decide +kernel
theorem dX8_takeRead_140 : decode cX8_takeRead 140 = .ok (.iaload, 1) := by decide +kernel
theorem dX8_takeRead_141 : decode cX8_takeRead 141 = .ok (.iastore, 1) := by decide +kernel
theorem dX8_takeRead_142 : decode cX8_takeRead 142 = .ok (.aload_n 0, 1) := by decide +kernel
theorem dX8_takeRead_143 : decode cX8_takeRead 143 = .ok (.getfield 16, 3) := by decide +kernel
theorem dX8_takeRead_146 : decode cX8_takeRead 146 = .ok (.iconst 0, 1) := by decide +kernel
theorem dX8_takeRead_147 : decode cX8_takeRead 147 = .ok (.iload_n 1, 1) := by decide +kernel
theorem dX8_takeRead_148 : decode cX8_takeRead 148 = .ok (.iadd, 1) := by decide +kernel
theorem dX8_takeRead_149 : decode cX8_takeRead 149 = .ok (.iload_n 1, 1) := by decide +kernel
theorem dX8_takeRead_150 : decode cX8_takeRead 150 = .ok (.iastore, 1) := by decide +kernel
theorem dX8_takeRead_151 : decode cX8_takeRead 151 = .ok (.iinc 1 1, 3) := by decide +kernel
theorem dX8_takeRead_154 : decode cX8_takeRead 154 = .ok (.goto (-44), 3) := by decide +kernel
theorem dX8_takeRead_157 : decode cX8_takeRead 157 = .ok (.aload_n 0, 1) := by decide +kernel
theorem dX8_takeRead_158 : decode cX8_takeRead 158 = .ok (.getfield 16, 3) := by decide +kernel
theorem dX8_takeRead_161 : decode cX8_takeRead 161 = .ok (.bipush 12, 2) := by decide +kernel
theorem dX8_takeRead_163 : decode cX8_takeRead 163 = .ok (.aload_n 0, 1) := by decide +kernel
theorem dX8_takeRead_164 : decode cX8_takeRead 164 = .ok (.getfield 86, 3) := by decide +kernel
theorem dX8_takeRead_167 : decode cX8_takeRead 167 = .ok (.iastore, 1) := by decide +kernel
theorem dX8_takeRead_168 : decode cX8_takeRead 168 = .ok (.iconst 0, 1) := by decide +kernel
theorem dX8_takeRead_169 : decode cX8_takeRead 169 = .ok (.istore_n 1, 1) := by decide +kernel
theorem dX8_takeRead_170 : decode cX8_takeRead 170 = .ok (.iload_n 1, 1) := by decide +kernel
theorem dX8_takeRead_171 : decode cX8_takeRead 171 = .ok (.bipush 6, 2) := by decide +kernel
theorem dX8_takeRead_173 : decode cX8_takeRead 173 = .ok (.if_icmp .ge 19, 3) := by decide +kernel
theorem dX8_takeRead_176 : decode cX8_takeRead 176 = .ok (.aload_n 0, 1) := by decide +kernel
theorem dX8_takeRead_177 : decode cX8_takeRead 177 = .ok (.getfield 16, 3) := by decide +kernel
theorem dX8_takeRead_180 : decode cX8_takeRead 180 = .ok (.bipush 13, 2) := by decide +kernel
theorem dX8_takeRead_182 : decode cX8_takeRead 182 = .ok (.iload_n 1, 1) := by decide +kernel
theorem dX8_takeRead_183 : decode cX8_takeRead 183 = .ok (.iadd, 1) := by decide +kernel
theorem dX8_takeRead_184 : decode cX8_takeRead 184 = .ok (.iconst (-1), 1) := by decide +kernel
theorem dX8_takeRead_185 : decode cX8_takeRead 185 = .ok (.iastore, 1) := by decide +kernel
theorem dX8_takeRead_186 : decode cX8_takeRead 186 = .ok (.iinc 1 1, 3) := by decide +kernel
theorem dX8_takeRead_189 : decode cX8_takeRead 189 = .ok (.goto (-19), 3) := by decide +kernel
theorem dX8_takeRead_192 : decode cX8_takeRead 192 = .ok (.return_, 1) := by decide +kernel
theorem dX8_table_0 : decode cX8_table 0 = .ok (.aload_n 0, 1) := by decide +kernel
theorem dX8_table_1 : decode cX8_table 1 = .ok (.iconst (-1), 1) := by decide +kernel
theorem dX8_table_2 : decode cX8_table 2 = .ok (.putfield 22, 3) := by decide +kernel
theorem dX8_table_5 : decode cX8_table 5 = .ok (.aload_n 0, 1) := by decide +kernel
theorem dX8_table_6 : decode cX8_table 6 = .ok (.iconst 0, 1) := by decide +kernel
theorem dX8_table_7 : decode cX8_table 7 = .ok (.putfield 96, 3) := by decide +kernel
theorem dX8_table_10 : decode cX8_table 10 = .ok (.aload_n 0, 1) := by decide +kernel
theorem dX8_table_11 : decode cX8_table 11 = .ok (.iconst 0, 1) := by decide +kernel
theorem dX8_table_12 : decode cX8_table 12 = .ok (.putfield 120, 3) := by decide +kernel
theorem dX8_table_15 : decode cX8_table 15 = .ok (.aload_n 0, 1) := by decide +kernel
theorem dX8_table_16 : decode cX8_table 16 = .ok (.iconst 0, 1) := by decide +kernel
theorem dX8_table_17 : decode cX8_table 17 = .ok (.putfield 128, 3) := by decide +kernel
theorem dX8_table_20 : decode cX8_table 20 = .ok (.aload_n 0, 1) := by decide +kernel
theorem dX8_table_21 : decode cX8_table 21 = .ok (.iconst 0, 1) := by decide +kernel
theorem dX8_table_22 : decode cX8_table 22 = .ok (.putfield 131, 3) := by decide +kernel
theorem dX8_table_25 : decode cX8_table 25 = .ok (.iconst 0, 1) := by decide +kernel
theorem dX8_table_26 : decode cX8_table 26 = .ok (.istore_n 1, 1) := by decide +kernel
theorem dX8_table_27 : decode cX8_table 27 = .ok (.iload_n 1, 1) := by decide +kernel
theorem dX8_table_28 : decode cX8_table 28 = .ok (.ifCond .ne 18, 3) := by decide +kernel
theorem dX8_table_31 : decode cX8_table 31 = .ok (.aload_n 0, 1) := by decide +kernel
theorem dX8_table_32 : decode cX8_table 32 = .ok (.invokevirtual 99, 3) := by decide +kernel
theorem dX8_table_35 : decode cX8_table 35 = .ok (.ifCond .lt 11, 3) := by decide +kernel
theorem dX8_table_38 : decode cX8_table 38 = .ok (.aload_n 0, 1) := by decide +kernel
theorem dX8_table_39 : decode cX8_table 39 = .ok (.invokevirtual 155, 3) := by decide +kernel
theorem dX8_table_42 : decode cX8_table 42 = .ok (.istore_n 1, 1) := by decide +kernel
theorem dX8_table_43 : decode cX8_table 43 = .ok (.goto (-16), 3) := by decide +kernel
theorem dX8_table_46 : decode cX8_table 46 = .ok (.aload_n 0, 1) := by decide +kernel
theorem dX8_table_47 : decode cX8_table 47 = .ok (.iconst 0, 1) := by decide +kernel
theorem dX8_table_48 : decode cX8_table 48 = .ok (.putfield 92, 3) := by decide +kernel
theorem dX8_table_51 : decode cX8_table 51 = .ok (.iload_n 1, 1) := by decide +kernel
theorem dX8_table_52 : decode cX8_table 52 = .ok (.ifCond .le 8, 3) := by decide +kernel
theorem dX8_table_55 : decode cX8_table 55 = .ok (.bipush (-10), 2) := by decide +kernel
theorem dX8_table_57 : decode cX8_table 57 = .ok (.iload_n 1, 1) := by decide +kernel
theorem dX8_table_58 : decode cX8_table 58 = .ok (.isub, 1) := by decide +kernel
theorem dX8_table_59 : decode cX8_table 59 = .ok (.ireturn, 1) := by decide +kernel
theorem dX8_table_60 : decode cX8_table 60 = .ok (.aload_n 0, 1) := by decide +kernel
theorem dX8_table_61 : decode cX8_table 61 = .ok (.invokevirtual 158, 3) := by decide +kernel
theorem dX8_table_64 : decode cX8_table 64 = .ok (.aload_n 0, 1) := by decide +kernel
theorem dX8_table_65 : decode cX8_table 65 = .ok (.iconst 0, 1) := by decide +kernel
theorem dX8_table_66 : decode cX8_table 66 = .ok (.putfield 161, 3) := by decide +kernel
theorem dX8_table_69 : decode cX8_table 69 = .ok (.aload_n 0, 1) := by decide +kernel
theorem dX8_table_70 : decode cX8_table 70 = .ok (.iconst 0, 1) := by decide +kernel
theorem dX8_table_71 : decode cX8_table 71 = .ok (.putfield 164, 3) := by decide +kernel
theorem dX8_table_74 : decode cX8_table 74 = .ok (.aload_n 0, 1) := by decide +kernel
theorem dX8_table_75 : decode cX8_table 75 = .ok (.iconst 0, 1) := by decide +kernel
theorem dX8_table_76 : decode cX8_table 76 = .ok (.putfield 167, 3) := by decide +kernel
theorem dX8_table_79 : decode cX8_table 79 = .ok (.aload_n 0, 1) := by decide +kernel
theorem dX8_table_80 : decode cX8_table 80 = .ok (.getfield 71, 3) := by decide +kernel
theorem dX8_table_83 : decode cX8_table 83 = .ok (.iconst 0, 1) := by decide +kernel
theorem dX8_table_84 : decode cX8_table 84 = .ok (.iconst 0, 1) := by decide +kernel
theorem dX8_table_85 : decode cX8_table 85 = .ok (.bastore, 1) := by decide +kernel
theorem dX8_table_86 : decode cX8_table 86 = .ok (.aload_n 0, 1) := by decide +kernel
theorem dX8_table_87 : decode cX8_table 87 = .ok (.getfield 71, 3) := by decide +kernel
theorem dX8_table_90 : decode cX8_table 90 = .ok (.iconst 1, 1) := by decide +kernel
theorem dX8_table_91 : decode cX8_table 91 = .ok (.iconst 0, 1) := by decide +kernel
theorem dX8_table_92 : decode cX8_table 92 = .ok (.bastore, 1) := by decide +kernel
theorem dX8_table_93 : decode cX8_table 93 = .ok (.aload_n 0, 1) := by decide +kernel
theorem dX8_table_94 : decode cX8_table 94 = .ok (.getfield 75, 3) := by decide +kernel
theorem dX8_table_97 : decode cX8_table 97 = .ok (.ireturn, 1) := by decide +kernel
theorem dX8_fault_0 : decode cX8_fault 0 = .ok (.aload_n 0, 1) := by decide +kernel
theorem dX8_fault_1 : decode cX8_fault 1 = .ok (.getfield 22, 3) := by decide +kernel
theorem dX8_fault_4 : decode cX8_fault 4 = .ok (.ireturn, 1) := by decide +kernel
theorem dX8_beatsBy_0 : decode cX8_beatsBy 0 = .ok (.aload_n 0, 1) := by decide +kernel
theorem dX8_beatsBy_1 : decode cX8_beatsBy 1 = .ok (.getfield 13, 3) := by decide +kernel
theorem dX8_beatsBy_4 : decode cX8_beatsBy 4 = .ok (.iload_n 1, 1) := by decide +kernel
theorem dX8_beatsBy_5 : decode cX8_beatsBy 5 = .ok (.iaload, 1) := by decide +kernel
theorem dX8_beatsBy_6 : decode cX8_beatsBy 6 = .ok (.iload_n 3, 1) := by decide +kernel
theorem dX8_beatsBy_7 : decode cX8_beatsBy 7 = .ok (.if_icmp .ne 7, 3) := by decide +kernel
theorem dX8_beatsBy_10 : decode cX8_beatsBy 10 = .ok (.iconst 1, 1) := by decide +kernel
theorem dX8_beatsBy_11 : decode cX8_beatsBy 11 = .ok (.goto 4, 3) := by decide +kernel
theorem dX8_beatsBy_14 : decode cX8_beatsBy 14 = .ok (.iconst 0, 1) := by decide +kernel
theorem dX8_beatsBy_15 : decode cX8_beatsBy 15 = .ok (.istore 5, 2) := by decide +kernel
theorem dX8_beatsBy_17 : decode cX8_beatsBy 17 = .ok (.aload_n 0, 1) := by decide +kernel
theorem dX8_beatsBy_18 : decode cX8_beatsBy 18 = .ok (.getfield 13, 3) := by decide +kernel
theorem dX8_beatsBy_21 : decode cX8_beatsBy 21 = .ok (.iload_n 2, 1) := by decide +kernel
theorem dX8_beatsBy_22 : decode cX8_beatsBy 22 = .ok (.iaload, 1) := by decide +kernel
theorem dX8_beatsBy_23 : decode cX8_beatsBy 23 = .ok (.iload_n 3, 1) := by decide +kernel
theorem dX8_beatsBy_24 : decode cX8_beatsBy 24 = .ok (.if_icmp .ne 7, 3) := by decide +kernel
theorem dX8_beatsBy_27 : decode cX8_beatsBy 27 = .ok (.iconst 1, 1) := by decide +kernel
theorem dX8_beatsBy_28 : decode cX8_beatsBy 28 = .ok (.goto 4, 3) := by decide +kernel
theorem dX8_beatsBy_31 : decode cX8_beatsBy 31 = .ok (.iconst 0, 1) := by decide +kernel
theorem dX8_beatsBy_32 : decode cX8_beatsBy 32 = .ok (.istore 6, 2) := by decide +kernel
theorem dX8_beatsBy_34 : decode cX8_beatsBy 34 = .ok (.iload 5, 2) := by decide +kernel
theorem dX8_beatsBy_36 : decode cX8_beatsBy 36 = .ok (.iload 6, 2) := by decide +kernel
theorem dX8_beatsBy_38 : decode cX8_beatsBy 38 = .ok (.if_icmp .eq 14, 3) := by decide +kernel
theorem dX8_beatsBy_41 : decode cX8_beatsBy 41 = .ok (.iload 5, 2) := by decide +kernel
theorem dX8_beatsBy_43 : decode cX8_beatsBy 43 = .ok (.ifCond .eq 7, 3) := by decide +kernel
theorem dX8_beatsBy_46 : decode cX8_beatsBy 46 = .ok (.iconst 0, 1) := by decide +kernel
theorem dX8_beatsBy_47 : decode cX8_beatsBy 47 = .ok (.goto 4, 3) := by decide +kernel
theorem dX8_beatsBy_50 : decode cX8_beatsBy 50 = .ok (.iconst 1, 1) := by decide +kernel
theorem dX8_beatsBy_51 : decode cX8_beatsBy 51 = .ok (.ireturn, 1) := by decide +kernel
theorem dX8_beatsBy_52 : decode cX8_beatsBy 52 = .ok (.aload_n 0, 1) := by decide +kernel
theorem dX8_beatsBy_53 : decode cX8_beatsBy 53 = .ok (.getfield 7, 3) := by decide +kernel
theorem dX8_beatsBy_56 : decode cX8_beatsBy 56 = .ok (.iload_n 1, 1) := by decide +kernel
theorem dX8_beatsBy_57 : decode cX8_beatsBy 57 = .ok (.iaload, 1) := by decide +kernel
theorem dX8_beatsBy_58 : decode cX8_beatsBy 58 = .ok (.bipush 11, 2) := by decide +kernel
theorem dX8_beatsBy_60 : decode cX8_beatsBy 60 = .ok (.if_icmp .ne 7, 3) := by decide +kernel
theorem dX8_beatsBy_63 : decode cX8_beatsBy 63 = .ok (.iconst 1, 1) := by decide +kernel
theorem dX8_beatsBy_64 : decode cX8_beatsBy 64 = .ok (.goto 4, 3) := by decide +kernel
theorem dX8_beatsBy_67 : decode cX8_beatsBy 67 = .ok (.iconst 0, 1) := by decide +kernel
theorem dX8_beatsBy_68 : decode cX8_beatsBy 68 = .ok (.istore 5, 2) := by decide +kernel
theorem dX8_beatsBy_70 : decode cX8_beatsBy 70 = .ok (.aload_n 0, 1) := by decide +kernel
theorem dX8_beatsBy_71 : decode cX8_beatsBy 71 = .ok (.getfield 7, 3) := by decide +kernel
theorem dX8_beatsBy_74 : decode cX8_beatsBy 74 = .ok (.iload_n 2, 1) := by decide +kernel
theorem dX8_beatsBy_75 : decode cX8_beatsBy 75 = .ok (.iaload, 1) := by decide +kernel
theorem dX8_beatsBy_76 : decode cX8_beatsBy 76 = .ok (.bipush 11, 2) := by decide +kernel
theorem dX8_beatsBy_78 : decode cX8_beatsBy 78 = .ok (.if_icmp .ne 7, 3) := by decide +kernel
theorem dX8_beatsBy_81 : decode cX8_beatsBy 81 = .ok (.iconst 1, 1) := by decide +kernel
theorem dX8_beatsBy_82 : decode cX8_beatsBy 82 = .ok (.goto 4, 3) := by decide +kernel
theorem dX8_beatsBy_85 : decode cX8_beatsBy 85 = .ok (.iconst 0, 1) := by decide +kernel
theorem dX8_beatsBy_86 : decode cX8_beatsBy 86 = .ok (.istore 6, 2) := by decide +kernel
theorem dX8_beatsBy_88 : decode cX8_beatsBy 88 = .ok (.aload_n 0, 1) := by decide +kernel
theorem dX8_beatsBy_89 : decode cX8_beatsBy 89 = .ok (.getfield 152, 3) := by decide +kernel
theorem dX8_beatsBy_92 : decode cX8_beatsBy 92 = .ok (.iconst 1, 1) := by decide +kernel
theorem dX8_beatsBy_93 : decode cX8_beatsBy 93 = .ok (.if_icmp .ne 36, 3) := by decide +kernel
theorem dX8_beatsBy_96 : decode cX8_beatsBy 96 = .ok (.aload_n 0, 1) := by decide +kernel
theorem dX8_beatsBy_97 : decode cX8_beatsBy 97 = .ok (.getfield 13, 3) := by decide +kernel
theorem dX8_beatsBy_100 : decode cX8_beatsBy 100 = .ok (.iload_n 1, 1) := by decide +kernel
theorem dX8_beatsBy_101 : decode cX8_beatsBy 101 = .ok (.iaload, 1) := by decide +kernel
theorem dX8_beatsBy_102 : decode cX8_beatsBy 102 = .ok (.aload_n 0, 1) := by decide +kernel
theorem dX8_beatsBy_103 : decode cX8_beatsBy 103 = .ok (.getfield 13, 3) := by decide +kernel
theorem dX8_beatsBy_106 : decode cX8_beatsBy 106 = .ok (.iload_n 2, 1) := by decide +kernel
theorem dX8_beatsBy_107 : decode cX8_beatsBy 107 = .ok (.iaload, 1) := by decide +kernel
theorem dX8_beatsBy_108 : decode cX8_beatsBy 108 = .ok (.if_icmp .ne 21, 3) := by decide +kernel
theorem dX8_beatsBy_111 : decode cX8_beatsBy 111 = .ok (.iload 5, 2) := by decide +kernel
theorem dX8_beatsBy_113 : decode cX8_beatsBy 113 = .ok (.iload 6, 2) := by decide +kernel
theorem dX8_beatsBy_115 : decode cX8_beatsBy 115 = .ok (.if_icmp .eq 14, 3) := by decide +kernel
theorem dX8_beatsBy_118 : decode cX8_beatsBy 118 = .ok (.iload 5, 2) := by decide +kernel
theorem dX8_beatsBy_120 : decode cX8_beatsBy 120 = .ok (.ifCond .eq 7, 3) := by decide +kernel
theorem dX8_beatsBy_123 : decode cX8_beatsBy 123 = .ok (.iconst 0, 1) := by decide +kernel
theorem dX8_beatsBy_124 : decode cX8_beatsBy 124 = .ok (.goto 4, 3) := by decide +kernel
theorem dX8_beatsBy_127 : decode cX8_beatsBy 127 = .ok (.iconst 1, 1) := by decide +kernel
theorem dX8_beatsBy_128 : decode cX8_beatsBy 128 = .ok (.ireturn, 1) := by decide +kernel
theorem dX8_beatsBy_129 : decode cX8_beatsBy 129 = .ok (.aload_n 0, 1) := by decide +kernel
theorem dX8_beatsBy_130 : decode cX8_beatsBy 130 = .ok (.getfield 7, 3) := by decide +kernel
theorem dX8_beatsBy_133 : decode cX8_beatsBy 133 = .ok (.iload_n 1, 1) := by decide +kernel
theorem dX8_beatsBy_134 : decode cX8_beatsBy 134 = .ok (.iaload, 1) := by decide +kernel
theorem dX8_beatsBy_135 : decode cX8_beatsBy 135 = .ok (.aload_n 0, 1) := by decide +kernel
theorem dX8_beatsBy_136 : decode cX8_beatsBy 136 = .ok (.getfield 7, 3) := by decide +kernel
theorem dX8_beatsBy_139 : decode cX8_beatsBy 139 = .ok (.iload_n 2, 1) := by decide +kernel
theorem dX8_beatsBy_140 : decode cX8_beatsBy 140 = .ok (.iaload, 1) := by decide +kernel
theorem dX8_beatsBy_141 : decode cX8_beatsBy 141 = .ok (.if_icmp .ne 5, 3) := by decide +kernel
theorem dX8_beatsBy_144 : decode cX8_beatsBy 144 = .ok (.iconst 2, 1) := by decide +kernel
theorem dX8_beatsBy_145 : decode cX8_beatsBy 145 = .ok (.ireturn, 1) := by decide +kernel
theorem dX8_beatsBy_146 : decode cX8_beatsBy 146 = .ok (.aload_n 0, 1) := by decide +kernel
theorem dX8_beatsBy_147 : decode cX8_beatsBy 147 = .ok (.getfield 7, 3) := by decide +kernel
theorem dX8_beatsBy_150 : decode cX8_beatsBy 150 = .ok (.iload_n 1, 1) := by decide +kernel
theorem dX8_beatsBy_151 : decode cX8_beatsBy 151 = .ok (.iaload, 1) := by decide +kernel
theorem dX8_beatsBy_152 : decode cX8_beatsBy 152 = .ok (.aload_n 0, 1) := by decide +kernel
theorem dX8_beatsBy_153 : decode cX8_beatsBy 153 = .ok (.getfield 7, 3) := by decide +kernel
theorem dX8_beatsBy_156 : decode cX8_beatsBy 156 = .ok (.iload_n 2, 1) := by decide +kernel
theorem dX8_beatsBy_157 : decode cX8_beatsBy 157 = .ok (.iaload, 1) := by decide +kernel
theorem dX8_beatsBy_158 : decode cX8_beatsBy 158 = .ok (.if_icmp .le 7, 3) := by decide +kernel
theorem dX8_beatsBy_161 : decode cX8_beatsBy 161 = .ok (.iconst 1, 1) := by decide +kernel
theorem dX8_beatsBy_162 : decode cX8_beatsBy 162 = .ok (.goto 4, 3) := by decide +kernel
theorem dX8_beatsBy_165 : decode cX8_beatsBy 165 = .ok (.iconst 0, 1) := by decide +kernel
theorem dX8_beatsBy_166 : decode cX8_beatsBy 166 = .ok (.iload 4, 2) := by decide +kernel
theorem dX8_beatsBy_168 : decode cX8_beatsBy 168 = .ok (.ifCond .ne 7, 3) := by decide +kernel
theorem dX8_beatsBy_171 : decode cX8_beatsBy 171 = .ok (.iconst 1, 1) := by decide +kernel
theorem dX8_beatsBy_172 : decode cX8_beatsBy 172 = .ok (.goto 4, 3) := by decide +kernel
theorem dX8_beatsBy_175 : decode cX8_beatsBy 175 = .ok (.iconst 0, 1) := by decide +kernel
theorem dX8_beatsBy_176 : decode cX8_beatsBy 176 = .ok (.if_icmp .ne 7, 3) := by decide +kernel
theorem dX8_beatsBy_179 : decode cX8_beatsBy 179 = .ok (.iconst 0, 1) := by decide +kernel
theorem dX8_beatsBy_180 : decode cX8_beatsBy 180 = .ok (.goto 4, 3) := by decide +kernel
theorem dX8_beatsBy_183 : decode cX8_beatsBy 183 = .ok (.iconst 1, 1) := by decide +kernel
theorem dX8_beatsBy_184 : decode cX8_beatsBy 184 = .ok (.ireturn, 1) := by decide +kernel
theorem dX8_cardsMeet_0 : decode cX8_cardsMeet 0 = .ok (.aload_n 0, 1) := by decide +kernel
theorem dX8_cardsMeet_1 : decode cX8_cardsMeet 1 = .ok (.iload_n 1, 1) := by decide +kernel
theorem dX8_cardsMeet_2 : decode cX8_cardsMeet 2 = .ok (.iload_n 2, 1) := by decide +kernel
theorem dX8_cardsMeet_3 : decode cX8_cardsMeet 3 = .ok (.aload_n 0, 1) := by decide +kernel
theorem dX8_cardsMeet_4 : decode cX8_cardsMeet 4 = .ok (.getfield 146, 3) := by decide +kernel
theorem dX8_cardsMeet_7 : decode cX8_cardsMeet 7 = .ok (.aload_n 0, 1) := by decide +kernel
theorem dX8_cardsMeet_8 : decode cX8_cardsMeet 8 = .ok (.getfield 149, 3) := by decide +kernel
theorem dX8_cardsMeet_11 : decode cX8_cardsMeet 11 = .ok (.invokevirtual 170, 3) := by decide +kernel
theorem dX8_cardsMeet_14 : decode cX8_cardsMeet 14 = .ok (.ireturn, 1) := by decide +kernel
theorem dX8_meetBy_0 : decode cX8_meetBy 0 = .ok (.iload_n 1, 1) := by decide +kernel
theorem dX8_meetBy_1 : decode cX8_meetBy 1 = .ok (.ifCond .lt 7, 3) := by decide +kernel
theorem dX8_meetBy_4 : decode cX8_meetBy 4 = .ok (.iload_n 2, 1) := by decide +kernel
theorem dX8_meetBy_5 : decode cX8_meetBy 5 = .ok (.ifCond .ge 21, 3) := by decide +kernel
theorem dX8_meetBy_8 : decode cX8_meetBy 8 = .ok (.iload_n 1, 1) := by decide +kernel
theorem dX8_meetBy_9 : decode cX8_meetBy 9 = .ok (.ifCond .lt 7, 3) := by decide +kernel
theorem dX8_meetBy_12 : decode cX8_meetBy 12 = .ok (.iconst 0, 1) := by decide +kernel
theorem dX8_meetBy_13 : decode cX8_meetBy 13 = .ok (.goto 12, 3) := by decide +kernel
theorem dX8_meetBy_16 : decode cX8_meetBy 16 = .ok (.iload_n 2, 1) := by decide +kernel
theorem dX8_meetBy_17 : decode cX8_meetBy 17 = .ok (.ifCond .lt 7, 3) := by decide +kernel
theorem dX8_meetBy_20 : decode cX8_meetBy 20 = .ok (.iconst 1, 1) := by decide +kernel
theorem dX8_meetBy_21 : decode cX8_meetBy 21 = .ok (.goto 4, 3) := by decide +kernel
theorem dX8_meetBy_24 : decode cX8_meetBy 24 = .ok (.iconst 2, 1) := by decide +kernel
theorem dX8_meetBy_25 : decode cX8_meetBy 25 = .ok (.ireturn, 1) := by decide +kernel
theorem dX8_meetBy_26 : decode cX8_meetBy 26 = .ok (.aload_n 0, 1) := by decide +kernel
theorem dX8_meetBy_27 : decode cX8_meetBy 27 = .ok (.iload_n 1, 1) := by decide +kernel
theorem dX8_meetBy_28 : decode cX8_meetBy 28 = .ok (.iload_n 2, 1) := by decide +kernel
theorem dX8_meetBy_29 : decode cX8_meetBy 29 = .ok (.invokevirtual 174, 3) := by decide +kernel
theorem dX8_meetBy_32 : decode cX8_meetBy 32 = .ok (.ireturn, 1) := by decide +kernel
theorem dX8_beatenBy_0 : decode cX8_beatenBy 0 = .ok (.iconst 0, 1) := by decide +kernel
theorem dX8_beatenBy_1 : decode cX8_beatenBy 1 = .ok (.istore_n 2, 1) := by decide +kernel
theorem dX8_beatenBy_2 : decode cX8_beatenBy 2 = .ok (.iconst 0, 1) := by decide +kernel
theorem dX8_beatenBy_3 : decode cX8_beatenBy 3 = .ok (.istore_n 3, 1) := by decide +kernel
theorem dX8_beatenBy_4 : decode cX8_beatenBy 4 = .ok (.iload_n 3, 1) := by decide +kernel
theorem dX8_beatenBy_5 : decode cX8_beatenBy 5 = .ok (.aload_n 0, 1) := by decide +kernel
theorem dX8_beatenBy_6 : decode cX8_beatenBy 6 = .ok (.getfield 75, 3) := by decide +kernel
theorem dX8_beatenBy_9 : decode cX8_beatenBy 9 = .ok (.if_icmp .ge 49, 3) := by decide +kernel
theorem dX8_beatenBy_12 : decode cX8_beatenBy 12 = .ok (.iload_n 2, 1) := by decide +kernel
theorem dX8_beatenBy_13 : decode cX8_beatenBy 13 = .ok (.iload_n 3, 1) := by decide +kernel
theorem dX8_beatenBy_14 : decode cX8_beatenBy 14 = .ok (.iload_n 1, 1) := by decide +kernel
theorem dX8_beatenBy_15 : decode cX8_beatenBy 15 = .ok (.if_icmp .eq 34, 3) := by decide +kernel
theorem dX8_beatenBy_18 : decode cX8_beatenBy 18 = .ok (.aload_n 0, 1) := by decide +kernel
theorem dX8_beatenBy_19 : decode cX8_beatenBy 19 = .ok (.aload_n 0, 1) := by decide +kernel
theorem dX8_beatenBy_20 : decode cX8_beatenBy 20 = .ok (.getfield 16, 3) := by decide +kernel
theorem dX8_beatenBy_23 : decode cX8_beatenBy 23 = .ok (.bipush 13, 2) := by decide +kernel
theorem dX8_beatenBy_25 : decode cX8_beatenBy 25 = .ok (.iload_n 1, 1) := by decide +kernel
theorem dX8_beatenBy_26 : decode cX8_beatenBy 26 = .ok (.iadd, 1) := by decide +kernel
theorem dX8_beatenBy_27 : decode cX8_beatenBy 27 = .ok (.iaload, 1) := by decide +kernel
theorem dX8_beatenBy_28 : decode cX8_beatenBy 28 = .ok (.aload_n 0, 1) := by decide +kernel
theorem dX8_beatenBy_29 : decode cX8_beatenBy 29 = .ok (.getfield 16, 3) := by decide +kernel
theorem dX8_beatenBy_32 : decode cX8_beatenBy 32 = .ok (.bipush 13, 2) := by decide +kernel
theorem dX8_beatenBy_34 : decode cX8_beatenBy 34 = .ok (.iload_n 3, 1) := by decide +kernel
theorem dX8_beatenBy_35 : decode cX8_beatenBy 35 = .ok (.iadd, 1) := by decide +kernel
theorem dX8_beatenBy_36 : decode cX8_beatenBy 36 = .ok (.iaload, 1) := by decide +kernel
theorem dX8_beatenBy_37 : decode cX8_beatenBy 37 = .ok (.invokevirtual 177, 3) := by decide +kernel
theorem dX8_beatenBy_40 : decode cX8_beatenBy 40 = .ok (.ifCond .ne 9, 3) := by decide +kernel
theorem dX8_beatenBy_43 : decode cX8_beatenBy 43 = .ok (.iconst 1, 1) := by decide +kernel
theorem dX8_beatenBy_44 : decode cX8_beatenBy 44 = .ok (.iload_n 3, 1) := by decide +kernel
theorem dX8_beatenBy_45 : decode cX8_beatenBy 45 = .ok (.ishl, 1) := by decide +kernel
theorem dX8_beatenBy_46 : decode cX8_beatenBy 46 = .ok (.goto 4, 3) := by decide +kernel
theorem dX8_beatenBy_49 : decode cX8_beatenBy 49 = .ok (.iconst 0, 1) := by decide +kernel
theorem dX8_beatenBy_50 : decode cX8_beatenBy 50 = .ok (.ior, 1) := by decide +kernel
theorem dX8_beatenBy_51 : decode cX8_beatenBy 51 = .ok (.istore_n 2, 1) := by decide +kernel
theorem dX8_beatenBy_52 : decode cX8_beatenBy 52 = .ok (.iinc 3 1, 3) := by decide +kernel
theorem dX8_beatenBy_55 : decode cX8_beatenBy 55 = .ok (.goto (-51), 3) := by decide +kernel
theorem dX8_beatenBy_58 : decode cX8_beatenBy 58 = .ok (.iload_n 2, 1) := by decide +kernel
theorem dX8_beatenBy_59 : decode cX8_beatenBy 59 = .ok (.ireturn, 1) := by decide +kernel
theorem dX8_ruler_0 : decode cX8_ruler 0 = .ok (.iconst (-1), 1) := by decide +kernel
theorem dX8_ruler_1 : decode cX8_ruler 1 = .ok (.istore_n 1, 1) := by decide +kernel
theorem dX8_ruler_2 : decode cX8_ruler 2 = .ok (.iconst 0, 1) := by decide +kernel
