theorem dX7_init_0 : decode cX7_init 0 = .ok (.aload_n 0, 1) := by decide +kernel
theorem dX7_init_1 : decode cX7_init 1 = .ok (.invokespecial 1, 3) := by decide +kernel
theorem dX7_init_4 : decode cX7_init 4 = .ok (.aload_n 0, 1) := by decide +kernel
theorem dX7_init_5 : decode cX7_init 5 = .ok (.bipush 6, 2) := by decide +kernel
theorem dX7_init_7 : decode cX7_init 7 = .ok (.newarray .int, 2) := by decide +kernel
theorem dX7_init_9 : decode cX7_init 9 = .ok (.putfield 9, 3) := by decide +kernel
theorem dX7_init_12 : decode cX7_init 12 = .ok (.aload_n 0, 1) := by decide +kernel
theorem dX7_init_13 : decode cX7_init 13 = .ok (.bipush 12, 2) := by decide +kernel
theorem dX7_init_15 : decode cX7_init 15 = .ok (.newarray .int, 2) := by decide +kernel
theorem dX7_init_17 : decode cX7_init 17 = .ok (.putfield 13, 3) := by decide +kernel
theorem dX7_init_20 : decode cX7_init 20 = .ok (.aload_n 0, 1) := by decide +kernel
theorem dX7_init_21 : decode cX7_init 21 = .ok (.new 16, 3) := by decide +kernel
theorem dX7_init_24 : decode cX7_init 24 = .ok (.dup, 1) := by decide +kernel
theorem dX7_init_25 : decode cX7_init 25 = .ok (.invokespecial 18, 3) := by decide +kernel
theorem dX7_init_28 : decode cX7_init 28 = .ok (.putfield 19, 3) := by decide +kernel
theorem dX7_init_31 : decode cX7_init 31 = .ok (.aload_n 0, 1) := by decide +kernel
theorem dX7_init_32 : decode cX7_init 32 = .ok (.new 23, 3) := by decide +kernel
theorem dX7_init_35 : decode cX7_init 35 = .ok (.dup, 1) := by decide +kernel
theorem dX7_init_36 : decode cX7_init 36 = .ok (.invokespecial 25, 3) := by decide +kernel
theorem dX7_init_39 : decode cX7_init 39 = .ok (.putfield 26, 3) := by decide +kernel
theorem dX7_init_42 : decode cX7_init 42 = .ok (.aload_n 0, 1) := by decide +kernel
theorem dX7_init_43 : decode cX7_init 43 = .ok (.new 30, 3) := by decide +kernel
theorem dX7_init_46 : decode cX7_init 46 = .ok (.dup, 1) := by decide +kernel
theorem dX7_init_47 : decode cX7_init 47 = .ok (.invokespecial 32, 3) := by decide +kernel
theorem dX7_init_50 : decode cX7_init 50 = .ok (.putfield 33, 3) := by decide +kernel
theorem dX7_init_53 : decode cX7_init 53 = .ok (.aload_n 0, 1) := by decide +kernel
theorem dX7_init_54 : decode cX7_init 54 = .ok (.new 37, 3) := by decide +kernel
theorem dX7_init_57 : decode cX7_init 57 = .ok (.dup, 1) := by decide +kernel
theorem dX7_init_58 : decode cX7_init 58 = .ok (.invokespecial 39, 3) := by decide +kernel
theorem dX7_init_61 : decode cX7_init 61 = .ok (.putfield 40, 3) := by decide +kernel
theorem dX7_init_64 : decode cX7_init 64 = .ok (.aload_n 0, 1) := by decide +kernel
theorem dX7_init_65 : decode cX7_init 65 = .ok (.new 44, 3) := by decide +kernel
theorem dX7_init_68 : decode cX7_init 68 = .ok (.dup, 1) := by decide +kernel
theorem dX7_init_69 : decode cX7_init 69 = .ok (.invokespecial 46, 3) := by decide +kernel
theorem dX7_init_72 : decode cX7_init 72 = .ok (.putfield 47, 3) := by decide +kernel
theorem dX7_init_75 : decode cX7_init 75 = .ok (.aload_n 0, 1) := by decide +kernel
theorem dX7_init_76 : decode cX7_init 76 = .ok (.new 51, 3) := by decide +kernel
theorem dX7_init_79 : decode cX7_init 79 = .ok (.dup, 1) := by decide +kernel
theorem dX7_init_80 : decode cX7_init 80 = .ok (.invokespecial 53, 3) := by decide +kernel
theorem dX7_init_83 : decode cX7_init 83 = .ok (.putfield 54, 3) := by decide +kernel
theorem dX7_init_86 : decode cX7_init 86 = .ok (.aload_n 0, 1) := by decide +kernel
theorem dX7_init_87 : decode cX7_init 87 = .ok (.iconst 2, 1) := by decide +kernel
theorem dX7_init_88 : decode cX7_init 88 = .ok (.anewarray 58, 3) := by decide +kernel
theorem dX7_init_91 : decode cX7_init 91 = .ok (.putfield 60, 3) := by decide +kernel
theorem dX7_init_94 : decode cX7_init 94 = .ok (.iconst 0, 1) := by decide +kernel
theorem dX7_init_95 : decode cX7_init 95 = .ok (.istore_n 1, 1) := by decide +kernel
theorem dX7_init_96 : decode cX7_init 96 = .ok (.iload_n 1, 1) := by decide +kernel
theorem dX7_init_97 : decode cX7_init 97 = .ok (.iconst 2, 1) := by decide +kernel
theorem dX7_init_98 : decode cX7_init 98 = .ok (.if_icmp .ge 22, 3) := by decide +kernel
theorem dX7_init_101 : decode cX7_init 101 = .ok (.aload_n 0, 1) := by decide +kernel
theorem dX7_init_102 : decode cX7_init 102 = .ok (.getfield 60, 3) := by decide +kernel
theorem dX7_init_105 : decode cX7_init 105 = .ok (.iload_n 1, 1) := by decide +kernel
theorem dX7_init_106 : decode cX7_init 106 = .ok (.new 58, 3) := by decide +kernel
theorem dX7_init_109 : decode cX7_init 109 = .ok (.dup, 1) := by decide +kernel
theorem dX7_init_110 : decode cX7_init 110 = .ok (.invokespecial 64, 3) := by decide +kernel
theorem dX7_init_113 : decode cX7_init 113 = .ok (.aastore, 1) := by decide +kernel
theorem dX7_init_114 : decode cX7_init 114 = .ok (.iinc 1 1, 3) := by decide +kernel
theorem dX7_init_117 : decode cX7_init 117 = .ok (.goto (-21), 3) := by decide +kernel
theorem dX7_init_120 : decode cX7_init 120 = .ok (.return_, 1) := by decide +kernel
theorem dX7_feed_0 : decode cX7_feed 0 = .ok (.iload_n 1, 1) := by decide +kernel
theorem dX7_feed_1 : decode cX7_feed 1 = .ok (.ifCond .lt 10, 3) := by decide +kernel
theorem dX7_feed_4 : decode cX7_feed 4 = .ok (.iload_n 1, 1) := by decide +kernel
theorem dX7_feed_5 : decode cX7_feed 5 = .ok (.sipush 255, 3) := by decide +kernel
theorem dX7_feed_8 : decode cX7_feed 8 = .ok (.if_icmp .le 6, 3) := by decide +kernel
theorem dX7_feed_11 : decode cX7_feed 11 = .ok (.ldc 65, 2) := by decide +kernel
theorem dX7_feed_13 : decode cX7_feed 13 = .ok (.ireturn, 1) := by decide +kernel
theorem dX7_feed_14 : decode cX7_feed 14 = .ok (.aload_n 0, 1) := by decide +kernel
theorem dX7_feed_15 : decode cX7_feed 15 = .ok (.getfield 19, 3) := by decide +kernel
theorem dX7_feed_18 : decode cX7_feed 18 = .ok (.iload_n 1, 1) := by decide +kernel
theorem dX7_feed_19 : decode cX7_feed 19 = .ok (.invokevirtual 66, 3) := by decide +kernel
theorem dX7_feed_22 : decode cX7_feed 22 = .ok (.ifCond .eq 13, 3) := by decide +kernel
theorem dX7_feed_25 : decode cX7_feed 25 = .ok (.aload_n 0, 1) := by decide +kernel
theorem dX7_feed_26 : decode cX7_feed 26 = .ok (.getfield 19, 3) := by decide +kernel
theorem dX7_feed_29 : decode cX7_feed 29 = .ok (.getfield 70, 3) := by decide +kernel
theorem dX7_feed_32 : decode cX7_feed 32 = .ok (.goto 5, 3) := by decide +kernel
theorem dX7_feed_35 : decode cX7_feed 35 = .ok (.ldc 74, 2) := by decide +kernel
theorem dX7_feed_37 : decode cX7_feed 37 = .ok (.ireturn, 1) := by decide +kernel
theorem dX7_table_0 : decode cX7_table 0 = .ok (.aload_n 0, 1) := by decide +kernel
theorem dX7_table_1 : decode cX7_table 1 = .ok (.getfield 19, 3) := by decide +kernel
theorem dX7_table_4 : decode cX7_table 4 = .ok (.invokevirtual 75, 3) := by decide +kernel
theorem dX7_table_7 : decode cX7_table 7 = .ok (.aload_n 0, 1) := by decide +kernel
theorem dX7_table_8 : decode cX7_table 8 = .ok (.getfield 19, 3) := by decide +kernel
theorem dX7_table_11 : decode cX7_table 11 = .ok (.getfield 78, 3) := by decide +kernel
theorem dX7_table_14 : decode cX7_table 14 = .ok (.ifCond .eq 14, 3) := by decide +kernel
theorem dX7_table_17 : decode cX7_table 17 = .ok (.bipush (-10), 2) := by decide +kernel
theorem dX7_table_19 : decode cX7_table 19 = .ok (.aload_n 0, 1) := by decide +kernel
theorem dX7_table_20 : decode cX7_table 20 = .ok (.getfield 19, 3) := by decide +kernel
theorem dX7_table_23 : decode cX7_table 23 = .ok (.getfield 78, 3) := by decide +kernel
theorem dX7_table_26 : decode cX7_table 26 = .ok (.isub, 1) := by decide +kernel
theorem dX7_table_27 : decode cX7_table 27 = .ok (.ireturn, 1) := by decide +kernel
theorem dX7_table_28 : decode cX7_table 28 = .ok (.aload_n 0, 1) := by decide +kernel
theorem dX7_table_29 : decode cX7_table 29 = .ok (.getfield 26, 3) := by decide +kernel
theorem dX7_table_32 : decode cX7_table 32 = .ok (.aload_n 0, 1) := by decide +kernel
theorem dX7_table_33 : decode cX7_table 33 = .ok (.getfield 19, 3) := by decide +kernel
theorem dX7_table_36 : decode cX7_table 36 = .ok (.getfield 81, 3) := by decide +kernel
theorem dX7_table_39 : decode cX7_table 39 = .ok (.invokevirtual 84, 3) := by decide +kernel
theorem dX7_table_42 : decode cX7_table 42 = .ok (.aload_n 0, 1) := by decide +kernel
theorem dX7_table_43 : decode cX7_table 43 = .ok (.getfield 33, 3) := by decide +kernel
theorem dX7_table_46 : decode cX7_table 46 = .ok (.aload_n 0, 1) := by decide +kernel
theorem dX7_table_47 : decode cX7_table 47 = .ok (.getfield 26, 3) := by decide +kernel
theorem dX7_table_50 : decode cX7_table 50 = .ok (.getfield 88, 3) := by decide +kernel
theorem dX7_table_53 : decode cX7_table 53 = .ok (.invokevirtual 91, 3) := by decide +kernel
theorem dX7_table_56 : decode cX7_table 56 = .ok (.aload_n 0, 1) := by decide +kernel
theorem dX7_table_57 : decode cX7_table 57 = .ok (.getfield 47, 3) := by decide +kernel
theorem dX7_table_60 : decode cX7_table 60 = .ok (.invokevirtual 95, 3) := by decide +kernel
theorem dX7_table_63 : decode cX7_table 63 = .ok (.aload_n 0, 1) := by decide +kernel
theorem dX7_table_64 : decode cX7_table 64 = .ok (.getfield 40, 3) := by decide +kernel
theorem dX7_table_67 : decode cX7_table 67 = .ok (.invokevirtual 98, 3) := by decide +kernel
theorem dX7_table_70 : decode cX7_table 70 = .ok (.iconst 0, 1) := by decide +kernel
theorem dX7_table_71 : decode cX7_table 71 = .ok (.istore_n 1, 1) := by decide +kernel
theorem dX7_table_72 : decode cX7_table 72 = .ok (.iload_n 1, 1) := by decide +kernel
theorem dX7_table_73 : decode cX7_table 73 = .ok (.iconst 2, 1) := by decide +kernel
theorem dX7_table_74 : decode cX7_table 74 = .ok (.if_icmp .ge 19, 3) := by decide +kernel
theorem dX7_table_77 : decode cX7_table 77 = .ok (.aload_n 0, 1) := by decide +kernel
theorem dX7_table_78 : decode cX7_table 78 = .ok (.getfield 60, 3) := by decide +kernel
theorem dX7_table_81 : decode cX7_table 81 = .ok (.iload_n 1, 1) := by decide +kernel
theorem dX7_table_82 : decode cX7_table 82 = .ok (.aaload, 1) := by decide +kernel
theorem dX7_table_83 : decode cX7_table 83 = .ok (.iconst 0, 1) := by decide +kernel
theorem dX7_table_84 : decode cX7_table 84 = .ok (.putfield 101, 3) := by decide +kernel
theorem dX7_table_87 : decode cX7_table 87 = .ok (.iinc 1 1, 3) := by decide +kernel
theorem dX7_table_90 : decode cX7_table 90 = .ok (.goto (-18), 3) := by decide +kernel
theorem dX7_table_93 : decode cX7_table 93 = .ok (.aload_n 0, 1) := by decide +kernel
theorem dX7_table_94 : decode cX7_table 94 = .ok (.getfield 26, 3) := by decide +kernel
theorem dX7_table_97 : decode cX7_table 97 = .ok (.getfield 105, 3) := by decide +kernel
theorem dX7_table_100 : decode cX7_table 100 = .ok (.ireturn, 1) := by decide +kernel
theorem dX7_fault_0 : decode cX7_fault 0 = .ok (.aload_n 0, 1) := by decide +kernel
theorem dX7_fault_1 : decode cX7_fault 1 = .ok (.getfield 19, 3) := by decide +kernel
theorem dX7_fault_4 : decode cX7_fault 4 = .ok (.getfield 108, 3) := by decide +kernel
theorem dX7_fault_7 : decode cX7_fault 7 = .ok (.ireturn, 1) := by decide +kernel
theorem dX7_told_0 : decode cX7_told 0 = .ok (.iload_n 1, 1) := by decide +kernel
theorem dX7_told_1 : decode cX7_told 1 = .ok (.tableswitch 189 0 14 #[75, 83, 91, 99, 107, 115, 123, 131, 139, 147, 152, 160, 165, 173, 181], 75) := by decide +kernel
theorem dX7_told_76 : decode cX7_told 76 = .ok (.aload_n 0, 1) := by decide +kernel
theorem dX7_told_77 : decode cX7_told 77 = .ok (.getfield 26, 3) := by decide +kernel
theorem dX7_told_80 : decode cX7_told 80 = .ok (.getfield 111, 3) := by decide +kernel
theorem dX7_told_83 : decode cX7_told 83 = .ok (.ireturn, 1) := by decide +kernel
theorem dX7_told_84 : decode cX7_told 84 = .ok (.aload_n 0, 1) := by decide +kernel
theorem dX7_told_85 : decode cX7_told 85 = .ok (.getfield 26, 3) := by decide +kernel
theorem dX7_told_88 : decode cX7_told 88 = .ok (.getfield 114, 3) := by decide +kernel
theorem dX7_told_91 : decode cX7_told 91 = .ok (.ireturn, 1) := by decide +kernel
theorem dX7_told_92 : decode cX7_told 92 = .ok (.aload_n 0, 1) := by decide +kernel
theorem dX7_told_93 : decode cX7_told 93 = .ok (.getfield 26, 3) := by decide +kernel
theorem dX7_told_96 : decode cX7_told 96 = .ok (.getfield 117, 3) := by decide +kernel
theorem dX7_told_99 : decode cX7_told 99 = .ok (.ireturn, 1) := by decide +kernel
theorem dX7_told_100 : decode cX7_told 100 = .ok (.aload_n 0, 1) := by decide +kernel
theorem dX7_told_101 : decode cX7_told 101 = .ok (.getfield 26, 3) := by decide +kernel
theorem dX7_told_104 : decode cX7_told 104 = .ok (.getfield 88, 3) := by decide +kernel
theorem dX7_told_107 : decode cX7_told 107 = .ok (.ireturn, 1) := by decide +kernel
theorem dX7_told_108 : decode cX7_told 108 = .ok (.aload_n 0, 1) := by decide +kernel
theorem dX7_told_109 : decode cX7_told 109 = .ok (.getfield 26, 3) := by decide +kernel
theorem dX7_told_112 : decode cX7_told 112 = .ok (.getfield 105, 3) := by decide +kernel
theorem dX7_told_115 : decode cX7_told 115 = .ok (.ireturn, 1) := by decide +kernel
theorem dX7_told_116 : decode cX7_told 116 = .ok (.aload_n 0, 1) := by decide +kernel
theorem dX7_told_117 : decode cX7_told 117 = .ok (.getfield 19, 3) := by decide +kernel
theorem dX7_told_120 : decode cX7_told 120 = .ok (.getfield 70, 3) := by decide +kernel
theorem dX7_told_123 : decode cX7_told 123 = .ok (.ireturn, 1) := by decide +kernel
theorem dX7_told_124 : decode cX7_told 124 = .ok (.aload_n 0, 1) := by decide +kernel
theorem dX7_told_125 : decode cX7_told 125 = .ok (.getfield 33, 3) := by decide +kernel
theorem dX7_told_128 : decode cX7_told 128 = .ok (.getfield 120, 3) := by decide +kernel
theorem dX7_told_131 : decode cX7_told 131 = .ok (.ireturn, 1) := by decide +kernel
theorem dX7_told_132 : decode cX7_told 132 = .ok (.aload_n 0, 1) := by decide +kernel
theorem dX7_told_133 : decode cX7_told 133 = .ok (.getfield 33, 3) := by decide +kernel
theorem dX7_told_136 : decode cX7_told 136 = .ok (.getfield 123, 3) := by decide +kernel
theorem dX7_told_139 : decode cX7_told 139 = .ok (.ireturn, 1) := by decide +kernel
theorem dX7_told_140 : decode cX7_told 140 = .ok (.aload_n 0, 1) := by decide +kernel
theorem dX7_told_141 : decode cX7_told 141 = .ok (.getfield 33, 3) := by decide +kernel
theorem dX7_told_144 : decode cX7_told 144 = .ok (.invokevirtual 126, 3) := by decide +kernel
theorem dX7_told_147 : decode cX7_told 147 = .ok (.ireturn, 1) := by decide +kernel
theorem dX7_told_148 : decode cX7_told 148 = .ok (.aload_n 0, 1) := by decide +kernel
theorem dX7_told_149 : decode cX7_told 149 = .ok (.invokevirtual 130, 3) := by decide +kernel
theorem dX7_told_152 : decode cX7_told 152 = .ok (.ireturn, 1) := by decide +kernel
theorem dX7_told_153 : decode cX7_told 153 = .ok (.aload_n 0, 1) := by decide +kernel
theorem dX7_told_154 : decode cX7_told 154 = .ok (.getfield 33, 3) := by decide +kernel
theorem dX7_told_157 : decode cX7_told 157 = .ok (.getfield 133, 3) := by decide +kernel
theorem dX7_told_160 : decode cX7_told 160 = .ok (.ireturn, 1) := by decide +kernel
theorem dX7_told_161 : decode cX7_told 161 = .ok (.aload_n 0, 1) := by decide +kernel
theorem dX7_told_162 : decode cX7_told 162 = .ok (.invokevirtual 136, 3) := by decide +kernel
theorem dX7_told_165 : decode cX7_told 165 = .ok (.ireturn, 1) := by decide +kernel
theorem dX7_told_166 : decode cX7_told 166 = .ok (.aload_n 0, 1) := by decide +kernel
theorem dX7_told_167 : decode cX7_told 167 = .ok (.getfield 47, 3) := by decide +kernel
theorem dX7_told_170 : decode cX7_told 170 = .ok (.getfield 139, 3) := by decide +kernel
theorem dX7_told_173 : decode cX7_told 173 = .ok (.ireturn, 1) := by decide +kernel
theorem dX7_told_174 : decode cX7_told 174 = .ok (.aload_n 0, 1) := by decide +kernel
theorem dX7_told_175 : decode cX7_told 175 = .ok (.getfield 47, 3) := by decide +kernel
theorem dX7_told_178 : decode cX7_told 178 = .ok (.getfield 142, 3) := by decide +kernel
theorem dX7_told_181 : decode cX7_told 181 = .ok (.ireturn, 1) := by decide +kernel
theorem dX7_told_182 : decode cX7_told 182 = .ok (.aload_n 0, 1) := by decide +kernel
theorem dX7_told_183 : decode cX7_told 183 = .ok (.getfield 40, 3) := by decide +kernel
theorem dX7_told_186 : decode cX7_told 186 = .ok (.getfield 145, 3) := by decide +kernel
theorem dX7_told_189 : decode cX7_told 189 = .ok (.ireturn, 1) := by decide +kernel
theorem dX7_told_190 : decode cX7_told 190 = .ok (.ldc 65, 2) := by decide +kernel
theorem dX7_told_192 : decode cX7_told 192 = .ok (.ireturn, 1) := by decide +kernel
theorem dX7_card_0 : decode cX7_card 0 = .ok (.aload_n 0, 1) := by decide +kernel
theorem dX7_card_1 : decode cX7_card 1 = .ok (.getfield 26, 3) := by decide +kernel
theorem dX7_card_4 : decode cX7_card 4 = .ok (.iload_n 1, 1) := by decide +kernel
theorem dX7_card_5 : decode cX7_card 5 = .ok (.invokevirtual 147, 3) := by decide +kernel
theorem dX7_card_8 : decode cX7_card 8 = .ok (.ifCond .ne 6, 3) := by decide +kernel
theorem dX7_card_11 : decode cX7_card 11 = .ok (.ldc 150, 2) := by decide +kernel
theorem dX7_card_13 : decode cX7_card 13 = .ok (.ireturn, 1) := by decide +kernel
theorem dX7_card_14 : decode cX7_card 14 = .ok (.iload_n 2, 1) := by decide +kernel
theorem dX7_card_15 : decode cX7_card 15 = .ok (.tableswitch 81 0 4 #[33, 42, 51, 60, 69], 33) := by decide +kernel
theorem dX7_card_48 : decode cX7_card 48 = .ok (.aload_n 0, 1) := by decide +kernel
theorem dX7_card_49 : decode cX7_card 49 = .ok (.getfield 26, 3) := by decide +kernel
theorem dX7_card_52 : decode cX7_card 52 = .ok (.iload_n 1, 1) := by decide +kernel
theorem dX7_card_53 : decode cX7_card 53 = .ok (.invokevirtual 151, 3) := by decide +kernel
theorem dX7_card_56 : decode cX7_card 56 = .ok (.ireturn, 1) := by decide +kernel
theorem dX7_card_57 : decode cX7_card 57 = .ok (.aload_n 0, 1) := by decide +kernel
theorem dX7_card_58 : decode cX7_card 58 = .ok (.getfield 26, 3) := by decide +kernel
theorem dX7_card_61 : decode cX7_card 61 = .ok (.iload_n 1, 1) := by decide +kernel
theorem dX7_card_62 : decode cX7_card 62 = .ok (.invokevirtual 155, 3) := by decide +kernel
theorem dX7_card_65 : decode cX7_card 65 = .ok (.ireturn, 1) := by decide +kernel
theorem dX7_card_66 : decode cX7_card 66 = .ok (.aload_n 0, 1) := by decide +kernel
theorem dX7_card_67 : decode cX7_card 67 = .ok (.getfield 33, 3) := by decide +kernel
theorem dX7_card_70 : decode cX7_card 70 = .ok (.iload_n 1, 1) := by decide +kernel
theorem dX7_card_71 : decode cX7_card 71 = .ok (.invokevirtual 158, 3) := by decide +kernel
theorem dX7_card_74 : decode cX7_card 74 = .ok (.ireturn, 1) := by decide +kernel
theorem dX7_card_75 : decode cX7_card 75 = .ok (.aload_n 0, 1) := by decide +kernel
theorem dX7_card_76 : decode cX7_card 76 = .ok (.getfield 33, 3) := by decide +kernel
theorem dX7_card_79 : decode cX7_card 79 = .ok (.iload_n 1, 1) := by decide +kernel
theorem dX7_card_80 : decode cX7_card 80 = .ok (.invokevirtual 161, 3) := by decide +kernel
theorem dX7_card_83 : decode cX7_card 83 = .ok (.ireturn, 1) := by decide +kernel
theorem dX7_card_84 : decode cX7_card 84 = .ok (.aload_n 0, 1) := by decide +kernel
theorem dX7_card_85 : decode cX7_card 85 = .ok (.getfield 33, 3) := by decide +kernel
theorem dX7_card_88 : decode cX7_card 88 = .ok (.getfield 123, 3) := by decide +kernel
theorem dX7_card_91 : decode cX7_card 91 = .ok (.iload_n 1, 1) := by decide +kernel
theorem dX7_card_92 : decode cX7_card 92 = .ok (.ishr, 1) := by decide +kernel
theorem dX7_card_93 : decode cX7_card 93 = .ok (.iconst 1, 1) := by decide +kernel
theorem dX7_card_94 : decode cX7_card 94 = .ok (.iand, 1) := by decide +kernel
theorem dX7_card_95 : decode cX7_card 95 = .ok (.ireturn, 1) := by decide +kernel
theorem dX7_card_96 : decode cX7_card 96 = .ok (.ldc 65, 2) := by decide +kernel
theorem dX7_card_98 : decode cX7_card 98 = .ok (.ireturn, 1) := by decide +kernel
theorem dX7_pack_0 : decode cX7_pack 0 = .ok (.aload_n 0, 1) := by decide +kernel
theorem dX7_pack_1 : decode cX7_pack 1 = .ok (.getfield 33, 3) := by decide +kernel
theorem dX7_pack_4 : decode cX7_pack 4 = .ok (.iload_n 1, 1) := by decide +kernel
theorem dX7_pack_5 : decode cX7_pack 5 = .ok (.invokevirtual 164, 3) := by decide +kernel
theorem dX7_pack_8 : decode cX7_pack 8 = .ok (.ireturn, 1) := by decide +kernel
theorem dX7_person_0 : decode cX7_person 0 = .ok (.aload_n 0, 1) := by decide +kernel
theorem dX7_person_1 : decode cX7_person 1 = .ok (.getfield 26, 3) := by decide +kernel
theorem dX7_person_4 : decode cX7_person 4 = .ok (.iload_n 1, 1) := by decide +kernel
theorem dX7_person_5 : decode cX7_person 5 = .ok (.invokevirtual 167, 3) := by decide +kernel
theorem dX7_person_8 : decode cX7_person 8 = .ok (.ifCond .ne 6, 3) := by decide +kernel
theorem dX7_person_11 : decode cX7_person 11 = .ok (.ldc 150, 2) := by decide +kernel
theorem dX7_person_13 : decode cX7_person 13 = .ok (.ireturn, 1) := by decide +kernel
theorem dX7_person_14 : decode cX7_person 14 = .ok (.iload_n 2, 1) := by decide +kernel
theorem dX7_person_15 : decode cX7_person 15 = .ok (.tableswitch 49 0 2 #[25, 34, 43], 25) := by decide +kernel
theorem dX7_person_40 : decode cX7_person 40 = .ok (.aload_n 0, 1) := by decide +kernel
theorem dX7_person_41 : decode cX7_person 41 = .ok (.getfield 33, 3) := by decide +kernel
theorem dX7_person_44 : decode cX7_person 44 = .ok (.iload_n 1, 1) := by decide +kernel
theorem dX7_person_45 : decode cX7_person 45 = .ok (.invokevirtual 170, 3) := by decide +kernel
theorem dX7_person_48 : decode cX7_person 48 = .ok (.ireturn, 1) := by decide +kernel
theorem dX7_person_49 : decode cX7_person 49 = .ok (.aload_n 0, 1) := by decide +kernel
theorem dX7_person_50 : decode cX7_person 50 = .ok (.getfield 33, 3) := by decide +kernel
theorem dX7_person_53 : decode cX7_person 53 = .ok (.iload_n 1, 1) := by decide +kernel
theorem dX7_person_54 : decode cX7_person 54 = .ok (.invokevirtual 173, 3) := by decide +kernel
theorem dX7_person_57 : decode cX7_person 57 = .ok (.ireturn, 1) := by decide +kernel
theorem dX7_person_58 : decode cX7_person 58 = .ok (.aload_n 0, 1) := by decide +kernel
theorem dX7_person_59 : decode cX7_person 59 = .ok (.iload_n 1, 1) := by decide +kernel
theorem dX7_person_60 : decode cX7_person 60 = .ok (.invokevirtual 176, 3) := by decide +kernel
theorem dX7_person_63 : decode cX7_person 63 = .ok (.ireturn, 1) := by decide +kernel
theorem dX7_person_64 : decode cX7_person 64 = .ok (.ldc 65, 2) := by decide +kernel
theorem dX7_person_66 : decode cX7_person 66 = .ok (.ireturn, 1) := by decide +kernel
theorem dX7_logged_0 : decode cX7_logged 0 = .ok (.iload_n 2, 1) := by decide +kernel
theorem dX7_logged_1 : decode cX7_logged 1 = .ok (.ifCond .lt 8, 3) := by decide +kernel
theorem dX7_logged_4 : decode cX7_logged 4 = .ok (.iload_n 2, 1) := by decide +kernel
theorem dX7_logged_5 : decode cX7_logged 5 = .ok (.iconst 2, 1) := by decide +kernel
theorem dX7_logged_6 : decode cX7_logged 6 = .ok (.if_icmp .le 6, 3) := by decide +kernel
theorem dX7_logged_9 : decode cX7_logged 9 = .ok (.ldc 65, 2) := by decide +kernel
theorem dX7_logged_11 : decode cX7_logged 11 = .ok (.ireturn, 1) := by decide +kernel
theorem dX7_logged_12 : decode cX7_logged 12 = .ok (.iload_n 1, 1) := by decide +kernel
theorem dX7_logged_13 : decode cX7_logged 13 = .ok (.ifCond .lt 14, 3) := by decide +kernel
theorem dX7_logged_16 : decode cX7_logged 16 = .ok (.iload_n 1, 1) := by decide +kernel
theorem dX7_logged_17 : decode cX7_logged 17 = .ok (.aload_n 0, 1) := by decide +kernel
theorem dX7_logged_18 : decode cX7_logged 18 = .ok (.getfield 33, 3) := by decide +kernel
theorem dX7_logged_21 : decode cX7_logged 21 = .ok (.getfield 133, 3) := by decide +kernel
theorem dX7_logged_24 : decode cX7_logged 24 = .ok (.if_icmp .lt 5, 3) := by decide +kernel
theorem dX7_logged_27 : decode cX7_logged 27 = .ok (.iconst (-1), 1) := by decide +kernel
theorem dX7_logged_28 : decode cX7_logged 28 = .ok (.ireturn, 1) := by decide +kernel
theorem dX7_logged_29 : decode cX7_logged 29 = .ok (.aload_n 0, 1) := by decide +kernel
theorem dX7_logged_30 : decode cX7_logged 30 = .ok (.getfield 33, 3) := by decide +kernel
theorem dX7_logged_33 : decode cX7_logged 33 = .ok (.aload_n 0, 1) := by decide +kernel
theorem dX7_logged_34 : decode cX7_logged 34 = .ok (.getfield 33, 3) := by decide +kernel
theorem dX7_logged_37 : decode cX7_logged 37 = .ok (.getfield 133, 3) := by decide +kernel
theorem dX7_logged_40 : decode cX7_logged 40 = .ok (.iconst 1, 1) := by decide +kernel
theorem dX7_logged_41 : decode cX7_logged 41 = .ok (.isub, 1) := by decide +kernel
theorem dX7_logged_42 : decode cX7_logged 42 = .ok (.iload_n 1, 1) := by decide +kernel
theorem dX7_logged_43 : decode cX7_logged 43 = .ok (.isub, 1) := by decide +kernel
theorem dX7_logged_44 : decode cX7_logged 44 = .ok (.invokevirtual 179, 3) := by decide +kernel
theorem dX7_logged_47 : decode cX7_logged 47 = .ok (.istore_n 3, 1) := by decide +kernel
theorem dX7_logged_48 : decode cX7_logged 48 = .ok (.iload_n 3, 1) := by decide +kernel
theorem dX7_logged_49 : decode cX7_logged 49 = .ok (.invokestatic 182, 3) := by decide +kernel
theorem dX7_logged_52 : decode cX7_logged 52 = .ok (.istore 4, 2) := by decide +kernel
theorem dX7_logged_54 : decode cX7_logged 54 = .ok (.iload_n 3, 1) := by decide +kernel
theorem dX7_logged_55 : decode cX7_logged 55 = .ok (.invokestatic 185, 3) := by decide +kernel
theorem dX7_logged_58 : decode cX7_logged 58 = .ok (.istore 5, 2) := by decide +kernel
theorem dX7_logged_60 : decode cX7_logged 60 = .ok (.iload_n 2, 1) := by decide +kernel
theorem dX7_logged_61 : decode cX7_logged 61 = .ok (.ifCond .ne 6, 3) := by decide +kernel
theorem dX7_logged_64 : decode cX7_logged 64 = .ok (.iload 4, 2) := by decide +kernel
theorem dX7_logged_66 : decode cX7_logged 66 = .ok (.ireturn, 1) := by decide +kernel
theorem dX7_logged_67 : decode cX7_logged 67 = .ok (.iload_n 2, 1) := by decide +kernel
theorem dX7_logged_68 : decode cX7_logged 68 = .ok (.iconst 1, 1) := by decide +kernel
theorem dX7_logged_69 : decode cX7_logged 69 = .ok (.if_icmp .ne 8, 3) := by decide +kernel
theorem dX7_logged_72 : decode cX7_logged 72 = .ok (.iload 5, 2) := by decide +kernel
theorem dX7_logged_74 : decode cX7_logged 74 = .ok (.goto 14, 3) := by decide +kernel
theorem dX7_logged_77 : decode cX7_logged 77 = .ok (.iload 4, 2) := by decide +kernel
theorem dX7_logged_79 : decode cX7_logged 79 = .ok (.iload 5, 2) := by decide +kernel
theorem dX7_logged_81 : decode cX7_logged 81 = .ok (.iload_n 3, 1) := by decide +kernel
theorem dX7_logged_82 : decode cX7_logged 82 = .ok (.invokestatic 188, 3) := by decide +kernel
theorem dX7_logged_85 : decode cX7_logged 85 = .ok (.invokestatic 191, 3) := by decide +kernel
theorem dX7_logged_88 : decode cX7_logged 88 = .ok (.ireturn, 1) := by decide +kernel
theorem dX7_drawOne_0 : decode cX7_drawOne 0 = .ok (.aload_n 0, 1) := by decide +kernel
theorem dX7_drawOne_1 : decode cX7_drawOne 1 = .ok (.getfield 26, 3) := by decide +kernel
theorem dX7_drawOne_4 : decode cX7_drawOne 4 = .ok (.iload_n 1, 1) := by decide +kernel
theorem dX7_drawOne_5 : decode cX7_drawOne 5 = .ok (.invokevirtual 167, 3) := by decide +kernel
theorem dX7_drawOne_8 : decode cX7_drawOne 8 = .ok (.ifCond .ne 6, 3) := by decide +kernel
theorem dX7_drawOne_11 : decode cX7_drawOne 11 = .ok (.ldc 150, 2) := by decide +kernel
theorem dX7_drawOne_13 : decode cX7_drawOne 13 = .ok (.ireturn, 1) := by decide +kernel
theorem dX7_drawOne_14 : decode cX7_drawOne 14 = .ok (.aload_n 0, 1) := by decide +kernel
theorem dX7_drawOne_15 : decode cX7_drawOne 15 = .ok (.getfield 33, 3) := by decide +kernel
theorem dX7_drawOne_18 : decode cX7_drawOne 18 = .ok (.iload_n 1, 1) := by decide +kernel
theorem dX7_drawOne_19 : decode cX7_drawOne 19 = .ok (.invokevirtual 195, 3) := by decide +kernel
theorem dX7_drawOne_22 : decode cX7_drawOne 22 = .ok (.ifCond .ne 6, 3) := by decide +kernel
theorem dX7_drawOne_25 : decode cX7_drawOne 25 = .ok (.ldc 198, 2) := by decide +kernel
theorem dX7_drawOne_27 : decode cX7_drawOne 27 = .ok (.ireturn, 1) := by decide +kernel
theorem dX7_drawOne_28 : decode cX7_drawOne 28 = .ok (.aload_n 0, 1) := by decide +kernel
theorem dX7_drawOne_29 : decode cX7_drawOne 29 = .ok (.getfield 40, 3) := by decide +kernel
theorem dX7_drawOne_32 : decode cX7_drawOne 32 = .ok (.aload_n 0, 1) := by decide +kernel
theorem dX7_drawOne_33 : decode cX7_drawOne 33 = .ok (.getfield 33, 3) := by decide +kernel
theorem dX7_drawOne_36 : decode cX7_drawOne 36 = .ok (.invokevirtual 199, 3) := by decide +kernel
theorem dX7_drawOne_39 : decode cX7_drawOne 39 = .ok (.aload_n 0, 1) := by decide +kernel
theorem dX7_drawOne_40 : decode cX7_drawOne 40 = .ok (.getfield 33, 3) := by decide +kernel
theorem dX7_drawOne_43 : decode cX7_drawOne 43 = .ok (.iload_n 1, 1) := by decide +kernel
theorem dX7_drawOne_44 : decode cX7_drawOne 44 = .ok (.invokevirtual 203, 3) := by decide +kernel
theorem dX7_drawOne_47 : decode cX7_drawOne 47 = .ok (.ireturn, 1) := by decide +kernel
theorem dX7_getBack_0 : decode cX7_getBack 0 = .ok (.aload_n 0, 1) := by decide +kernel
theorem dX7_getBack_1 : decode cX7_getBack 1 = .ok (.getfield 26, 3) := by decide +kernel
theorem dX7_getBack_4 : decode cX7_getBack 4 = .ok (.iload_n 1, 1) := by decide +kernel
theorem dX7_getBack_5 : decode cX7_getBack 5 = .ok (.invokevirtual 167, 3) := by decide +kernel
theorem dX7_getBack_8 : decode cX7_getBack 8 = .ok (.ifCond .ne 6, 3) := by decide +kernel
theorem dX7_getBack_11 : decode cX7_getBack 11 = .ok (.ldc 150, 2) := by decide +kernel
theorem dX7_getBack_13 : decode cX7_getBack 13 = .ok (.ireturn, 1) := by decide +kernel
theorem dX7_getBack_14 : decode cX7_getBack 14 = .ok (.aload_n 0, 1) := by decide +kernel
theorem dX7_getBack_15 : decode cX7_getBack 15 = .ok (.getfield 33, 3) := by decide +kernel
theorem dX7_getBack_18 : decode cX7_getBack 18 = .ok (.iload_n 1, 1) := by decide +kernel
theorem dX7_getBack_19 : decode cX7_getBack 19 = .ok (.invokevirtual 170, 3) := by decide +kernel
theorem dX7_getBack_22 : decode cX7_getBack 22 = .ok (.iconst (-1), 1) := by decide +kernel
theorem dX7_getBack_23 : decode cX7_getBack 23 = .ok (.if_icmp .ne 6, 3) := by decide +kernel
theorem dX7_getBack_26 : decode cX7_getBack 26 = .ok (.ldc 198, 2) := by decide +kernel
theorem dX7_getBack_28 : decode cX7_getBack 28 = .ok (.ireturn, 1) := by decide +kernel
theorem dX7_getBack_29 : decode cX7_getBack 29 = .ok (.aload_n 0, 1) := by decide +kernel
theorem dX7_getBack_30 : decode cX7_getBack 30 = .ok (.getfield 40, 3) := by decide +kernel
theorem dX7_getBack_33 : decode cX7_getBack 33 = .ok (.aload_n 0, 1) := by decide +kernel
theorem dX7_getBack_34 : decode cX7_getBack 34 = .ok (.getfield 33, 3) := by decide +kernel
theorem dX7_getBack_37 : decode cX7_getBack 37 = .ok (.invokevirtual 199, 3) := by decide +kernel
theorem dX7_getBack_40 : decode cX7_getBack 40 = .ok (.aload_n 0, 1) := by decide +kernel
theorem dX7_getBack_41 : decode cX7_getBack 41 = .ok (.getfield 33, 3) := by decide +kernel
theorem dX7_getBack_44 : decode cX7_getBack 44 = .ok (.iload_n 1, 1) := by decide +kernel
theorem dX7_getBack_45 : decode cX7_getBack 45 = .ok (.invokevirtual 206, 3) := by decide +kernel
theorem dX7_getBack_48 : decode cX7_getBack 48 = .ok (.ireturn, 1) := by decide +kernel
theorem dX7_meet_0 : decode cX7_meet 0 = .ok (.aload_n 0, 1) := by decide +kernel
theorem dX7_meet_1 : decode cX7_meet 1 = .ok (.getfield 26, 3) := by decide +kernel
theorem dX7_meet_4 : decode cX7_meet 4 = .ok (.iload_n 1, 1) := by decide +kernel
theorem dX7_meet_5 : decode cX7_meet 5 = .ok (.iload_n 2, 1) := by decide +kernel
theorem dX7_meet_6 : decode cX7_meet 6 = .ok (.invokevirtual 209, 3) := by decide +kernel
theorem dX7_meet_9 : decode cX7_meet 9 = .ok (.ifCond .ne 6, 3) := by decide +kernel
theorem dX7_meet_12 : decode cX7_meet 12 = .ok (.ldc 150, 2) := by decide +kernel
theorem dX7_meet_14 : decode cX7_meet 14 = .ok (.ireturn, 1) := by decide +kernel
theorem dX7_meet_15 : decode cX7_meet 15 = .ok (.aload_n 0, 1) := by decide +kernel
theorem dX7_meet_16 : decode cX7_meet 16 = .ok (.getfield 40, 3) := by decide +kernel
theorem dX7_meet_19 : decode cX7_meet 19 = .ok (.aload_n 0, 1) := by decide +kernel
theorem dX7_meet_20 : decode cX7_meet 20 = .ok (.getfield 33, 3) := by decide +kernel
theorem dX7_meet_23 : decode cX7_meet 23 = .ok (.invokevirtual 199, 3) := by decide +kernel
theorem dX7_meet_26 : decode cX7_meet 26 = .ok (.iload_n 1, 1) := by decide +kernel
theorem dX7_meet_27 : decode cX7_meet 27 = .ok (.iload_n 2, 1) := by decide +kernel
theorem dX7_meet_28 : decode cX7_meet 28 = .ok (.aload_n 0, 1) := by decide +kernel
theorem dX7_meet_29 : decode cX7_meet 29 = .ok (.iload_n 1, 1) := by decide +kernel
theorem dX7_meet_30 : decode cX7_meet 30 = .ok (.iload_n 2, 1) := by decide +kernel
theorem dX7_meet_31 : decode cX7_meet 31 = .ok (.invokevirtual 213, 3) := by decide +kernel
theorem dX7_meet_34 : decode cX7_meet 34 = .ok (.invokestatic 191, 3) := by decide +kernel
theorem dX7_meet_37 : decode cX7_meet 37 = .ok (.ireturn, 1) := by decide +kernel
theorem dX7_force_0 : decode cX7_force 0 = .ok (.aload_n 0, 1) := by decide +kernel
theorem dX7_force_1 : decode cX7_force 1 = .ok (.getfield 26, 3) := by decide +kernel
theorem dX7_force_4 : decode cX7_force 4 = .ok (.iload_n 1, 1) := by decide +kernel
theorem dX7_force_5 : decode cX7_force 5 = .ok (.invokevirtual 147, 3) := by decide +kernel
theorem dX7_force_8 : decode cX7_force 8 = .ok (.ifCond .ne 6, 3) := by decide +kernel
theorem dX7_force_11 : decode cX7_force 11 = .ok (.ldc 150, 2) := by decide +kernel
theorem dX7_force_13 : decode cX7_force 13 = .ok (.ireturn, 1) := by decide +kernel
theorem dX7_force_14 : decode cX7_force 14 = .ok (.aload_n 0, 1) := by decide +kernel
theorem dX7_force_15 : decode cX7_force 15 = .ok (.getfield 33, 3) := by decide +kernel
theorem dX7_force_18 : decode cX7_force 18 = .ok (.iload_n 1, 1) := by decide +kernel
theorem dX7_force_19 : decode cX7_force 19 = .ok (.invokevirtual 158, 3) := by decide +kernel
theorem dX7_force_22 : decode cX7_force 22 = .ok (.istore_n 2, 1) := by decide +kernel
theorem dX7_force_23 : decode cX7_force 23 = .ok (.iload_n 2, 1) := by decide +kernel
theorem dX7_force_24 : decode cX7_force 24 = .ok (.iconst (-1), 1) := by decide +kernel
theorem dX7_force_25 : decode cX7_force 25 = .ok (.if_icmp .ne 6, 3) := by decide +kernel
theorem dX7_force_28 : decode cX7_force 28 = .ok (.ldc 198, 2) := by decide +kernel
theorem dX7_force_30 : decode cX7_force 30 = .ok (.ireturn, 1) := by decide +kernel
theorem dX7_force_31 : decode cX7_force 31 = .ok (.aload_n 0, 1) := by decide +kernel
theorem dX7_force_32 : decode cX7_force 32 = .ok (.getfield 40, 3) := by decide +kernel
theorem dX7_force_35 : decode cX7_force 35 = .ok (.aload_n 0, 1) := by decide +kernel
theorem dX7_force_36 : decode cX7_force 36 = .ok (.getfield 33, 3) := by decide +kernel
theorem dX7_force_39 : decode cX7_force 39 = .ok (.invokevirtual 199, 3) := by decide +kernel
theorem dX7_force_42 : decode cX7_force 42 = .ok (.aload_n 0, 1) := by decide +kernel
theorem dX7_force_43 : decode cX7_force 43 = .ok (.getfield 33, 3) := by decide +kernel
theorem dX7_force_46 : decode cX7_force 46 = .ok (.iload_n 2, 1) := by decide +kernel
theorem dX7_force_47 : decode cX7_force 47 = .ok (.invokevirtual 217, 3) := by decide +kernel
theorem dX7_force_50 : decode cX7_force 50 = .ok (.iload_n 2, 1) := by decide +kernel
theorem dX7_force_51 : decode cX7_force 51 = .ok (.ireturn, 1) := by decide +kernel
theorem dX7_shuffle_0 : decode cX7_shuffle 0 = .ok (.iload_n 1, 1) := by decide +kernel
theorem dX7_shuffle_1 : decode cX7_shuffle 1 = .ok (.ifCond .lt 8, 3) := by decide +kernel
theorem dX7_shuffle_4 : decode cX7_shuffle 4 = .ok (.iload_n 1, 1) := by decide +kernel
theorem dX7_shuffle_5 : decode cX7_shuffle 5 = .ok (.iconst 3, 1) := by decide +kernel
theorem dX7_shuffle_6 : decode cX7_shuffle 6 = .ok (.if_icmp .lt 6, 3) := by decide +kernel
theorem dX7_shuffle_9 : decode cX7_shuffle 9 = .ok (.ldc 65, 2) := by decide +kernel
theorem dX7_shuffle_11 : decode cX7_shuffle 11 = .ok (.ireturn, 1) := by decide +kernel
theorem dX7_shuffle_12 : decode cX7_shuffle 12 = .ok (.aload_n 0, 1) := by decide +kernel
theorem dX7_shuffle_13 : decode cX7_shuffle 13 = .ok (.getfield 26, 3) := by decide +kernel
theorem dX7_shuffle_16 : decode cX7_shuffle 16 = .ok (.getfield 220, 3) := by decide +kernel
theorem dX7_shuffle_19 : decode cX7_shuffle 19 = .ok (.ifCond .ne 6, 3) := by decide +kernel
theorem dX7_shuffle_22 : decode cX7_shuffle 22 = .ok (.ldc 198, 2) := by decide +kernel
theorem dX7_shuffle_24 : decode cX7_shuffle 24 = .ok (.ireturn, 1) := by decide +kernel
theorem dX7_shuffle_25 : decode cX7_shuffle 25 = .ok (.aload_n 0, 1) := by decide +kernel
theorem dX7_shuffle_26 : decode cX7_shuffle 26 = .ok (.getfield 40, 3) := by decide +kernel
theorem dX7_shuffle_29 : decode cX7_shuffle 29 = .ok (.aload_n 0, 1) := by decide +kernel
theorem dX7_shuffle_30 : decode cX7_shuffle 30 = .ok (.getfield 33, 3) := by decide +kernel
theorem dX7_shuffle_33 : decode cX7_shuffle 33 = .ok (.invokevirtual 199, 3) := by decide +kernel
theorem dX7_shuffle_36 : decode cX7_shuffle 36 = .ok (.aload_n 0, 1) := by decide +kernel
theorem dX7_shuffle_37 : decode cX7_shuffle 37 = .ok (.getfield 33, 3) := by decide +kernel
theorem dX7_shuffle_40 : decode cX7_shuffle 40 = .ok (.iload_n 1, 1) := by decide +kernel
theorem dX7_shuffle_41 : decode cX7_shuffle 41 = .ok (.aload_n 0, 1) := by decide +kernel
theorem dX7_shuffle_42 : decode cX7_shuffle 42 = .ok (.getfield 13, 3) := by decide +kernel
theorem dX7_shuffle_45 : decode cX7_shuffle 45 = .ok (.invokevirtual 223, 3) := by decide +kernel
theorem dX7_shuffle_48 : decode cX7_shuffle 48 = .ok (.aload_n 0, 1) := by decide +kernel
theorem dX7_shuffle_49 : decode cX7_shuffle 49 = .ok (.getfield 33, 3) := by decide +kernel
theorem dX7_shuffle_52 : decode cX7_shuffle 52 = .ok (.iconst 0, 1) := by decide +kernel
theorem dX7_shuffle_53 : decode cX7_shuffle 53 = .ok (.invokevirtual 164, 3) := by decide +kernel
theorem dX7_shuffle_56 : decode cX7_shuffle 56 = .ok (.ireturn, 1) := by decide +kernel
theorem dX7_drawer_0 : decode cX7_drawer 0 = .ok (.aload_n 0, 1) := by decide +kernel
theorem dX7_drawer_1 : decode cX7_drawer 1 = .ok (.getfield 26, 3) := by decide +kernel
theorem dX7_drawer_4 : decode cX7_drawer 4 = .ok (.iload_n 1, 1) := by decide +kernel
theorem dX7_drawer_5 : decode cX7_drawer 5 = .ok (.invokevirtual 167, 3) := by decide +kernel
theorem dX7_drawer_8 : decode cX7_drawer 8 = .ok (.ifCond .ne 6, 3) := by decide +kernel
theorem dX7_drawer_11 : decode cX7_drawer 11 = .ok (.ldc 150, 2) := by decide +kernel
theorem dX7_drawer_13 : decode cX7_drawer 13 = .ok (.ireturn, 1) := by decide +kernel
theorem dX7_drawer_14 : decode cX7_drawer 14 = .ok (.aload_n 0, 1) := by decide +kernel
theorem dX7_drawer_15 : decode cX7_drawer 15 = .ok (.getfield 33, 3) := by decide +kernel
theorem dX7_drawer_18 : decode cX7_drawer 18 = .ok (.iload_n 1, 1) := by decide +kernel
theorem dX7_drawer_19 : decode cX7_drawer 19 = .ok (.invokevirtual 170, 3) := by decide +kernel
theorem dX7_drawer_22 : decode cX7_drawer 22 = .ok (.iconst (-1), 1) := by decide +kernel
theorem dX7_drawer_23 : decode cX7_drawer 23 = .ok (.if_icmp .ne 6, 3) := by decide +kernel
theorem dX7_drawer_26 : decode cX7_drawer 26 = .ok (.ldc 198, 2) := by decide +kernel
theorem dX7_drawer_28 : decode cX7_drawer 28 = .ok (.ireturn, 1) := by decide +kernel
theorem dX7_drawer_29 : decode cX7_drawer 29 = .ok (.aload_n 0, 1) := by decide +kernel
theorem dX7_drawer_30 : decode cX7_drawer 30 = .ok (.getfield 40, 3) := by decide +kernel
theorem dX7_drawer_33 : decode cX7_drawer 33 = .ok (.aload_n 0, 1) := by decide +kernel
theorem dX7_drawer_34 : decode cX7_drawer 34 = .ok (.getfield 33, 3) := by decide +kernel
theorem dX7_drawer_37 : decode cX7_drawer 37 = .ok (.invokevirtual 199, 3) := by decide +kernel
theorem dX7_drawer_40 : decode cX7_drawer 40 = .ok (.aload_n 0, 1) := by decide +kernel
theorem dX7_drawer_41 : decode cX7_drawer 41 = .ok (.getfield 33, 3) := by decide +kernel
theorem dX7_drawer_44 : decode cX7_drawer 44 = .ok (.iload_n 1, 1) := by decide +kernel
theorem dX7_drawer_45 : decode cX7_drawer 45 = .ok (.invokevirtual 227, 3) := by decide +kernel
theorem dX7_drawer_48 : decode cX7_drawer 48 = .ok (.ireturn, 1) := by decide +kernel
theorem dX7_out_0 : decode cX7_out 0 = .ok (.aload_n 0, 1) := by decide +kernel
theorem dX7_out_1 : decode cX7_out 1 = .ok (.getfield 26, 3) := by decide +kernel
theorem dX7_out_4 : decode cX7_out 4 = .ok (.iload_n 1, 1) := by decide +kernel
theorem dX7_out_5 : decode cX7_out 5 = .ok (.invokevirtual 147, 3) := by decide +kernel
theorem dX7_out_8 : decode cX7_out 8 = .ok (.ifCond .ne 6, 3) := by decide +kernel
theorem dX7_out_11 : decode cX7_out 11 = .ok (.ldc 150, 2) := by decide +kernel
theorem dX7_out_13 : decode cX7_out 13 = .ok (.ireturn, 1) := by decide +kernel
theorem dX7_out_14 : decode cX7_out 14 = .ok (.aload_n 0, 1) := by decide +kernel
theorem dX7_out_15 : decode cX7_out 15 = .ok (.getfield 33, 3) := by decide +kernel
theorem dX7_out_18 : decode cX7_out 18 = .ok (.getfield 123, 3) := by decide +kernel
theorem dX7_out_21 : decode cX7_out 21 = .ok (.iload_n 1, 1) := by decide +kernel
theorem dX7_out_22 : decode cX7_out 22 = .ok (.ishr, 1) := by decide +kernel
theorem dX7_out_23 : decode cX7_out 23 = .ok (.iconst 1, 1) := by decide +kernel
theorem dX7_out_24 : decode cX7_out 24 = .ok (.iand, 1) := by decide +kernel
theorem dX7_out_25 : decode cX7_out 25 = .ok (.ifCond .ne 6, 3) := by decide +kernel
theorem dX7_out_28 : decode cX7_out 28 = .ok (.ldc 198, 2) := by decide +kernel
theorem dX7_out_30 : decode cX7_out 30 = .ok (.ireturn, 1) := by decide +kernel
theorem dX7_out_31 : decode cX7_out 31 = .ok (.aload_n 0, 1) := by decide +kernel
theorem dX7_out_32 : decode cX7_out 32 = .ok (.getfield 40, 3) := by decide +kernel
theorem dX7_out_35 : decode cX7_out 35 = .ok (.aload_n 0, 1) := by decide +kernel
theorem dX7_out_36 : decode cX7_out 36 = .ok (.getfield 33, 3) := by decide +kernel
theorem dX7_out_39 : decode cX7_out 39 = .ok (.invokevirtual 199, 3) := by decide +kernel
theorem dX7_out_42 : decode cX7_out 42 = .ok (.aload_n 0, 1) := by decide +kernel
theorem dX7_out_43 : decode cX7_out 43 = .ok (.getfield 33, 3) := by decide +kernel
theorem dX7_out_46 : decode cX7_out 46 = .ok (.iload_n 1, 1) := by decide +kernel
theorem dX7_out_47 : decode cX7_out 47 = .ok (.invokevirtual 230, 3) := by decide +kernel
theorem dX7_out_50 : decode cX7_out 50 = .ok (.aload_n 0, 1) := by decide +kernel
theorem dX7_out_51 : decode cX7_out 51 = .ok (.getfield 33, 3) := by decide +kernel
theorem dX7_out_54 : decode cX7_out 54 = .ok (.getfield 120, 3) := by decide +kernel
theorem dX7_out_57 : decode cX7_out 57 = .ok (.ireturn, 1) := by decide +kernel
theorem dX7_drift_0 : decode cX7_drift 0 = .ok (.iload_n 1, 1) := by decide +kernel
theorem dX7_drift_1 : decode cX7_drift 1 = .ok (.iconst 1, 1) := by decide +kernel
theorem dX7_drift_2 : decode cX7_drift 2 = .ok (.if_icmp .lt 9, 3) := by decide +kernel
theorem dX7_drift_5 : decode cX7_drift 5 = .ok (.iload_n 1, 1) := by decide +kernel
theorem dX7_drift_6 : decode cX7_drift 6 = .ok (.bipush 60, 2) := by decide +kernel
theorem dX7_drift_8 : decode cX7_drift 8 = .ok (.if_icmp .le 6, 3) := by decide +kernel
theorem dX7_drift_11 : decode cX7_drift 11 = .ok (.ldc 65, 2) := by decide +kernel
theorem dX7_drift_13 : decode cX7_drift 13 = .ok (.ireturn, 1) := by decide +kernel
theorem dX7_drift_14 : decode cX7_drift 14 = .ok (.aload_n 0, 1) := by decide +kernel
theorem dX7_drift_15 : decode cX7_drift 15 = .ok (.getfield 26, 3) := by decide +kernel
theorem dX7_drift_18 : decode cX7_drift 18 = .ok (.getfield 220, 3) := by decide +kernel
theorem dX7_drift_21 : decode cX7_drift 21 = .ok (.ifCond .ne 6, 3) := by decide +kernel
theorem dX7_drift_24 : decode cX7_drift 24 = .ok (.ldc 198, 2) := by decide +kernel
theorem dX7_drift_26 : decode cX7_drift 26 = .ok (.ireturn, 1) := by decide +kernel
theorem dX7_drift_27 : decode cX7_drift 27 = .ok (.aload_n 0, 1) := by decide +kernel
theorem dX7_drift_28 : decode cX7_drift 28 = .ok (.getfield 40, 3) := by decide +kernel
theorem dX7_drift_31 : decode cX7_drift 31 = .ok (.aload_n 0, 1) := by decide +kernel
theorem dX7_drift_32 : decode cX7_drift 32 = .ok (.getfield 33, 3) := by decide +kernel
theorem dX7_drift_35 : decode cX7_drift 35 = .ok (.invokevirtual 199, 3) := by decide +kernel
theorem dX7_drift_38 : decode cX7_drift 38 = .ok (.aload_n 0, 1) := by decide +kernel
theorem dX7_drift_39 : decode cX7_drift 39 = .ok (.getfield 26, 3) := by decide +kernel
theorem dX7_drift_42 : decode cX7_drift 42 = .ok (.getfield 105, 3) := by decide +kernel
theorem dX7_drift_45 : decode cX7_drift 45 = .ok (.ifCond .le 20, 3) := by decide +kernel
theorem dX7_drift_48 : decode cX7_drift 48 = .ok (.iconst 0, 1) := by decide +kernel
theorem dX7_drift_49 : decode cX7_drift 49 = .ok (.istore_n 2, 1) := by decide +kernel
theorem dX7_drift_50 : decode cX7_drift 50 = .ok (.iload_n 2, 1) := by decide +kernel
theorem dX7_drift_51 : decode cX7_drift 51 = .ok (.iload_n 1, 1) := by decide +kernel
theorem dX7_drift_52 : decode cX7_drift 52 = .ok (.if_icmp .ge 13, 3) := by decide +kernel
theorem dX7_drift_55 : decode cX7_drift 55 = .ok (.aload_n 0, 1) := by decide +kernel
theorem dX7_drift_56 : decode cX7_drift 56 = .ok (.invokevirtual 233, 3) := by decide +kernel
theorem dX7_drift_59 : decode cX7_drift 59 = .ok (.iinc 2 1, 3) := by decide +kernel
theorem dX7_drift_62 : decode cX7_drift 62 = .ok (.goto (-12), 3) := by decide +kernel
theorem dX7_drift_65 : decode cX7_drift 65 = .ok (.aload_n 0, 1) := by decide +kernel
theorem dX7_drift_66 : decode cX7_drift 66 = .ok (.getfield 33, 3) := by decide +kernel
theorem dX7_drift_69 : decode cX7_drift 69 = .ok (.invokevirtual 126, 3) := by decide +kernel
theorem dX7_drift_72 : decode cX7_drift 72 = .ok (.ireturn, 1) := by decide +kernel
theorem dX7_undo_0 : decode cX7_undo 0 = .ok (.aload_n 0, 1) := by decide +kernel
theorem dX7_undo_1 : decode cX7_undo 1 = .ok (.getfield 40, 3) := by decide +kernel
theorem dX7_undo_4 : decode cX7_undo 4 = .ok (.getfield 145, 3) := by decide +kernel
theorem dX7_undo_7 : decode cX7_undo 7 = .ok (.ifCond .gt 6, 3) := by decide +kernel
theorem dX7_undo_10 : decode cX7_undo 10 = .ok (.ldc 198, 2) := by decide +kernel
theorem dX7_undo_12 : decode cX7_undo 12 = .ok (.ireturn, 1) := by decide +kernel
theorem dX7_undo_13 : decode cX7_undo 13 = .ok (.aload_n 0, 1) := by decide +kernel
theorem dX7_undo_14 : decode cX7_undo 14 = .ok (.getfield 40, 3) := by decide +kernel
theorem dX7_undo_17 : decode cX7_undo 17 = .ok (.aload_n 0, 1) := by decide +kernel
theorem dX7_undo_18 : decode cX7_undo 18 = .ok (.getfield 33, 3) := by decide +kernel
theorem dX7_undo_21 : decode cX7_undo 21 = .ok (.invokevirtual 236, 3) := by decide +kernel
theorem dX7_undo_24 : decode cX7_undo 24 = .ok (.aload_n 0, 1) := by decide +kernel
theorem dX7_undo_25 : decode cX7_undo 25 = .ok (.getfield 40, 3) := by decide +kernel
theorem dX7_undo_28 : decode cX7_undo 28 = .ok (.getfield 145, 3) := by decide +kernel
theorem dX7_undo_31 : decode cX7_undo 31 = .ok (.ireturn, 1) := by decide +kernel
theorem dX7_beats_0 : decode cX7_beats 0 = .ok (.aload_n 0, 1) := by decide +kernel
theorem dX7_beats_1 : decode cX7_beats 1 = .ok (.getfield 26, 3) := by decide +kernel
theorem dX7_beats_4 : decode cX7_beats 4 = .ok (.iload_n 1, 1) := by decide +kernel
theorem dX7_beats_5 : decode cX7_beats 5 = .ok (.invokevirtual 147, 3) := by decide +kernel
theorem dX7_beats_8 : decode cX7_beats 8 = .ok (.ifCond .eq 19, 3) := by decide +kernel
theorem dX7_beats_11 : decode cX7_beats 11 = .ok (.aload_n 0, 1) := by decide +kernel
theorem dX7_beats_12 : decode cX7_beats 12 = .ok (.getfield 26, 3) := by decide +kernel
theorem dX7_beats_15 : decode cX7_beats 15 = .ok (.iload_n 2, 1) := by decide +kernel
theorem dX7_beats_16 : decode cX7_beats 16 = .ok (.invokevirtual 147, 3) := by decide +kernel
theorem dX7_beats_19 : decode cX7_beats 19 = .ok (.ifCond .eq 8, 3) := by decide +kernel
theorem dX7_beats_22 : decode cX7_beats 22 = .ok (.iload_n 1, 1) := by decide +kernel
theorem dX7_beats_23 : decode cX7_beats 23 = .ok (.iload_n 2, 1) := by decide +kernel
theorem dX7_beats_24 : decode cX7_beats 24 = .ok (.if_icmp .ne 6, 3) := by decide +kernel
theorem dX7_beats_27 : decode cX7_beats 27 = .ok (.ldc 150, 2) := by decide +kernel
theorem dX7_beats_29 : decode cX7_beats 29 = .ok (.ireturn, 1) := by decide +kernel
theorem dX7_beats_30 : decode cX7_beats 30 = .ok (.aload_n 0, 1) := by decide +kernel
theorem dX7_beats_31 : decode cX7_beats 31 = .ok (.getfield 26, 3) := by decide +kernel
theorem dX7_beats_34 : decode cX7_beats 34 = .ok (.iload_n 1, 1) := by decide +kernel
theorem dX7_beats_35 : decode cX7_beats 35 = .ok (.iload_n 2, 1) := by decide +kernel
theorem dX7_beats_36 : decode cX7_beats 36 = .ok (.invokevirtual 239, 3) := by decide +kernel
theorem dX7_beats_39 : decode cX7_beats 39 = .ok (.istore_n 3, 1) := by decide +kernel
theorem dX7_beats_40 : decode cX7_beats 40 = .ok (.iload_n 3, 1) := by decide +kernel
theorem dX7_beats_41 : decode cX7_beats 41 = .ok (.iconst 2, 1) := by decide +kernel
theorem dX7_beats_42 : decode cX7_beats 42 = .ok (.if_icmp .ne 5, 3) := by decide +kernel
theorem dX7_beats_45 : decode cX7_beats 45 = .ok (.iconst 0, 1) := by decide +kernel
theorem dX7_beats_46 : decode cX7_beats 46 = .ok (.ireturn, 1) := by decide +kernel
theorem dX7_beats_47 : decode cX7_beats 47 = .ok (.iload_n 3, 1) := by decide +kernel
theorem dX7_beats_48 : decode cX7_beats 48 = .ok (.ifCond .ne 7, 3) := by decide +kernel
theorem dX7_beats_51 : decode cX7_beats 51 = .ok (.iconst 1, 1) := by decide +kernel
theorem dX7_beats_52 : decode cX7_beats 52 = .ok (.goto 4, 3) := by decide +kernel
theorem dX7_beats_55 : decode cX7_beats 55 = .ok (.iconst 2, 1) := by decide +kernel
theorem dX7_beats_56 : decode cX7_beats 56 = .ok (.ireturn, 1) := by decide +kernel
theorem dX7_rings_0 : decode cX7_rings 0 = .ok (.iconst 0, 1) := by decide +kernel
theorem dX7_rings_1 : decode cX7_rings 1 = .ok (.istore_n 2, 1) := by decide +kernel
theorem dX7_rings_2 : decode cX7_rings 2 = .ok (.iconst 0, 1) := by decide +kernel
theorem dX7_rings_3 : decode cX7_rings 3 = .ok (.istore_n 3, 1) := by decide +kernel
theorem dX7_rings_4 : decode cX7_rings 4 = .ok (.iload_n 3, 1) := by decide +kernel
theorem dX7_rings_5 : decode cX7_rings 5 = .ok (.aload_n 0, 1) := by decide +kernel
theorem dX7_rings_6 : decode cX7_rings 6 = .ok (.getfield 26, 3) := by decide +kernel
theorem dX7_rings_9 : decode cX7_rings 9 = .ok (.getfield 105, 3) := by decide +kernel
theorem dX7_rings_12 : decode cX7_rings 12 = .ok (.if_icmp .ge 89, 3) := by decide +kernel
theorem dX7_rings_15 : decode cX7_rings 15 = .ok (.iload_n 3, 1) := by decide +kernel
theorem dX7_rings_16 : decode cX7_rings 16 = .ok (.iconst 1, 1) := by decide +kernel
theorem dX7_rings_17 : decode cX7_rings 17 = .ok (.iadd, 1) := by decide +kernel
theorem dX7_rings_18 : decode cX7_rings 18 = .ok (.istore 4, 2) := by decide +kernel
theorem dX7_rings_20 : decode cX7_rings 20 = .ok (.iload 4, 2) := by decide +kernel
theorem dX7_rings_22 : decode cX7_rings 22 = .ok (.aload_n 0, 1) := by decide +kernel
theorem dX7_rings_23 : decode cX7_rings 23 = .ok (.getfield 26, 3) := by decide +kernel
theorem dX7_rings_26 : decode cX7_rings 26 = .ok (.getfield 105, 3) := by decide +kernel
theorem dX7_rings_29 : decode cX7_rings 29 = .ok (.if_icmp .ge 66, 3) := by decide +kernel
theorem dX7_rings_32 : decode cX7_rings 32 = .ok (.iload_n 3, 1) := by decide +kernel
theorem dX7_rings_33 : decode cX7_rings 33 = .ok (.iconst 1, 1) := by decide +kernel
theorem dX7_rings_34 : decode cX7_rings 34 = .ok (.iadd, 1) := by decide +kernel
theorem dX7_rings_35 : decode cX7_rings 35 = .ok (.istore 5, 2) := by decide +kernel
theorem dX7_rings_37 : decode cX7_rings 37 = .ok (.iload 5, 2) := by decide +kernel
theorem dX7_rings_39 : decode cX7_rings 39 = .ok (.aload_n 0, 1) := by decide +kernel
theorem dX7_rings_40 : decode cX7_rings 40 = .ok (.getfield 26, 3) := by decide +kernel
theorem dX7_rings_43 : decode cX7_rings 43 = .ok (.getfield 105, 3) := by decide +kernel
theorem dX7_rings_46 : decode cX7_rings 46 = .ok (.if_icmp .ge 43, 3) := by decide +kernel
theorem dX7_rings_49 : decode cX7_rings 49 = .ok (.aload_n 0, 1) := by decide +kernel
theorem dX7_rings_50 : decode cX7_rings 50 = .ok (.iload_n 3, 1) := by decide +kernel
theorem dX7_rings_51 : decode cX7_rings 51 = .ok (.iload 4, 2) := by decide +kernel
theorem dX7_rings_53 : decode cX7_rings 53 = .ok (.iload 5, 2) := by decide +kernel
theorem dX7_rings_55 : decode cX7_rings 55 = .ok (.invokevirtual 242, 3) := by decide +kernel
theorem dX7_rings_58 : decode cX7_rings 58 = .ok (.ifCond .eq 25, 3) := by decide +kernel
theorem dX7_rings_61 : decode cX7_rings 61 = .ok (.iload_n 2, 1) := by decide +kernel
theorem dX7_rings_62 : decode cX7_rings 62 = .ok (.iload_n 1, 1) := by decide +kernel
theorem dX7_rings_63 : decode cX7_rings 63 = .ok (.if_icmp .ne 17, 3) := by decide +kernel
theorem dX7_rings_66 : decode cX7_rings 66 = .ok (.bipush 100, 2) := by decide +kernel
theorem dX7_rings_68 : decode cX7_rings 68 = .ok (.iload_n 3, 1) := by decide +kernel
theorem dX7_rings_69 : decode cX7_rings 69 = .ok (.imul, 1) := by decide +kernel
theorem dX7_rings_70 : decode cX7_rings 70 = .ok (.bipush 10, 2) := by decide +kernel
theorem dX7_rings_72 : decode cX7_rings 72 = .ok (.iload 4, 2) := by decide +kernel
theorem dX7_rings_74 : decode cX7_rings 74 = .ok (.imul, 1) := by decide +kernel
theorem dX7_rings_75 : decode cX7_rings 75 = .ok (.iadd, 1) := by decide +kernel
theorem dX7_rings_76 : decode cX7_rings 76 = .ok (.iload 5, 2) := by decide +kernel
theorem dX7_rings_78 : decode cX7_rings 78 = .ok (.iadd, 1) := by decide +kernel
theorem dX7_rings_79 : decode cX7_rings 79 = .ok (.ireturn, 1) := by decide +kernel
theorem dX7_rings_80 : decode cX7_rings 80 = .ok (.iinc 2 1, 3) := by decide +kernel
theorem dX7_rings_83 : decode cX7_rings 83 = .ok (.iinc 5 1, 3) := by decide +kernel
theorem dX7_rings_86 : decode cX7_rings 86 = .ok (.goto (-49), 3) := by decide +kernel
theorem dX7_rings_89 : decode cX7_rings 89 = .ok (.iinc 4 1, 3) := by decide +kernel
theorem dX7_rings_92 : decode cX7_rings 92 = .ok (.goto (-72), 3) := by decide +kernel
theorem dX7_rings_95 : decode cX7_rings 95 = .ok (.iinc 3 1, 3) := by decide +kernel
theorem dX7_rings_98 : decode cX7_rings 98 = .ok (.goto (-94), 3) := by decide +kernel
theorem dX7_rings_101 : decode cX7_rings 101 = .ok (.iload_n 1, 1) := by decide +kernel
theorem dX7_rings_102 : decode cX7_rings 102 = .ok (.iconst (-1), 1) := by decide +kernel
theorem dX7_rings_103 : decode cX7_rings 103 = .ok (.if_icmp .ne 7, 3) := by decide +kernel
theorem dX7_rings_106 : decode cX7_rings 106 = .ok (.iload_n 2, 1) := by decide +kernel
theorem dX7_rings_107 : decode cX7_rings 107 = .ok (.goto 4, 3) := by decide +kernel
theorem dX7_rings_110 : decode cX7_rings 110 = .ok (.iconst (-1), 1) := by decide +kernel
theorem dX7_rings_111 : decode cX7_rings 111 = .ok (.ireturn, 1) := by decide +kernel
theorem dX7_order_0 : decode cX7_order 0 = .ok (.iload_n 1, 1) := by decide +kernel
theorem dX7_order_1 : decode cX7_order 1 = .ok (.ifCond .lt 16, 3) := by decide +kernel
theorem dX7_order_4 : decode cX7_order 4 = .ok (.iload_n 1, 1) := by decide +kernel
theorem dX7_order_5 : decode cX7_order 5 = .ok (.iconst 1, 1) := by decide +kernel
theorem dX7_order_6 : decode cX7_order 6 = .ok (.aload_n 0, 1) := by decide +kernel
theorem dX7_order_7 : decode cX7_order 7 = .ok (.getfield 26, 3) := by decide +kernel
theorem dX7_order_10 : decode cX7_order 10 = .ok (.getfield 105, 3) := by decide +kernel
theorem dX7_order_13 : decode cX7_order 13 = .ok (.ishl, 1) := by decide +kernel
theorem dX7_order_14 : decode cX7_order 14 = .ok (.if_icmp .lt 6, 3) := by decide +kernel
theorem dX7_order_17 : decode cX7_order 17 = .ok (.ldc 150, 2) := by decide +kernel
theorem dX7_order_19 : decode cX7_order 19 = .ok (.ireturn, 1) := by decide +kernel
theorem dX7_order_20 : decode cX7_order 20 = .ok (.iconst 0, 1) := by decide +kernel
theorem dX7_order_21 : decode cX7_order 21 = .ok (.istore_n 2, 1) := by decide +kernel
theorem dX7_order_22 : decode cX7_order 22 = .ok (.iconst 0, 1) := by decide +kernel
theorem dX7_order_23 : decode cX7_order 23 = .ok (.istore_n 3, 1) := by decide +kernel
theorem dX7_order_24 : decode cX7_order 24 = .ok (.iload_n 3, 1) := by decide +kernel
theorem dX7_order_25 : decode cX7_order 25 = .ok (.bipush 6, 2) := by decide +kernel
theorem dX7_order_27 : decode cX7_order 27 = .ok (.if_icmp .ge 47, 3) := by decide +kernel
theorem dX7_order_30 : decode cX7_order 30 = .ok (.aload_n 0, 1) := by decide +kernel
theorem dX7_order_31 : decode cX7_order 31 = .ok (.getfield 9, 3) := by decide +kernel
theorem dX7_order_34 : decode cX7_order 34 = .ok (.iload_n 3, 1) := by decide +kernel
theorem dX7_order_35 : decode cX7_order 35 = .ok (.aload_n 0, 1) := by decide +kernel
theorem dX7_order_36 : decode cX7_order 36 = .ok (.getfield 33, 3) := by decide +kernel
theorem dX7_order_39 : decode cX7_order 39 = .ok (.iload_n 3, 1) := by decide +kernel
theorem dX7_order_40 : decode cX7_order 40 = .ok (.invokevirtual 170, 3) := by decide +kernel
theorem dX7_order_43 : decode cX7_order 43 = .ok (.iastore, 1) := by decide +kernel
theorem dX7_order_44 : decode cX7_order 44 = .ok (.iload_n 3, 1) := by decide +kernel
theorem dX7_order_45 : decode cX7_order 45 = .ok (.aload_n 0, 1) := by decide +kernel
theorem dX7_order_46 : decode cX7_order 46 = .ok (.getfield 26, 3) := by decide +kernel
theorem dX7_order_49 : decode cX7_order 49 = .ok (.getfield 105, 3) := by decide +kernel
theorem dX7_order_52 : decode cX7_order 52 = .ok (.if_icmp .ge 16, 3) := by decide +kernel
theorem dX7_order_55 : decode cX7_order 55 = .ok (.aload_n 0, 1) := by decide +kernel
theorem dX7_order_56 : decode cX7_order 56 = .ok (.getfield 9, 3) := by decide +kernel
theorem dX7_order_59 : decode cX7_order 59 = .ok (.iload_n 3, 1) := by decide +kernel
theorem dX7_order_60 : decode cX7_order 60 = .ok (.iaload, 1) := by decide +kernel
theorem dX7_order_61 : decode cX7_order 61 = .ok (.iconst (-1), 1) := by decide +kernel
theorem dX7_order_62 : decode cX7_order 62 = .ok (.if_icmp .ne 6, 3) := by decide +kernel
theorem dX7_order_65 : decode cX7_order 65 = .ok (.iinc 2 1, 3) := by decide +kernel
theorem dX7_order_68 : decode cX7_order 68 = .ok (.iinc 3 1, 3) := by decide +kernel
theorem dX7_order_71 : decode cX7_order 71 = .ok (.goto (-47), 3) := by decide +kernel
theorem dX7_order_74 : decode cX7_order 74 = .ok (.aload_n 0, 1) := by decide +kernel
theorem dX7_order_75 : decode cX7_order 75 = .ok (.iconst 0, 1) := by decide +kernel
theorem dX7_order_76 : decode cX7_order 76 = .ok (.iload_n 2, 1) := by decide +kernel
theorem dX7_order_77 : decode cX7_order 77 = .ok (.aload_n 0, 1) := by decide +kernel
theorem dX7_order_78 : decode cX7_order 78 = .ok (.getfield 33, 3) := by decide +kernel
theorem dX7_order_81 : decode cX7_order 81 = .ok (.getfield 120, 3) := by decide +kernel
theorem dX7_order_84 : decode cX7_order 84 = .ok (.invokestatic 246, 3) := by decide +kernel
theorem dX7_order_87 : decode cX7_order 87 = .ok (.iload_n 1, 1) := by decide +kernel
theorem dX7_order_88 : decode cX7_order 88 = .ok (.iconst 0, 1) := by decide +kernel
theorem dX7_order_89 : decode cX7_order 89 = .ok (.invokevirtual 251, 3) := by decide +kernel
theorem dX7_order_92 : decode cX7_order 92 = .ok (.ireturn, 1) := by decide +kernel
theorem dX7_row_0 : decode cX7_row 0 = .ok (.aload_n 0, 1) := by decide +kernel
theorem dX7_row_1 : decode cX7_row 1 = .ok (.getfield 26, 3) := by decide +kernel
theorem dX7_row_4 : decode cX7_row 4 = .ok (.iload_n 1, 1) := by decide +kernel
theorem dX7_row_5 : decode cX7_row 5 = .ok (.invokevirtual 147, 3) := by decide +kernel
theorem dX7_row_8 : decode cX7_row 8 = .ok (.ifCond .ne 6, 3) := by decide +kernel
theorem dX7_row_11 : decode cX7_row 11 = .ok (.ldc 150, 2) := by decide +kernel
theorem dX7_row_13 : decode cX7_row 13 = .ok (.ireturn, 1) := by decide +kernel
theorem dX7_row_14 : decode cX7_row 14 = .ok (.iload_n 2, 1) := by decide +kernel
theorem dX7_row_15 : decode cX7_row 15 = .ok (.ifCond .lt 18, 3) := by decide +kernel
theorem dX7_row_18 : decode cX7_row 18 = .ok (.iload_n 2, 1) := by decide +kernel
theorem dX7_row_19 : decode cX7_row 19 = .ok (.bipush 12, 2) := by decide +kernel
theorem dX7_row_21 : decode cX7_row 21 = .ok (.if_icmp .ge 12, 3) := by decide +kernel
theorem dX7_row_24 : decode cX7_row 24 = .ok (.iload_n 3, 1) := by decide +kernel
theorem dX7_row_25 : decode cX7_row 25 = .ok (.ifCond .lt 8, 3) := by decide +kernel
theorem dX7_row_28 : decode cX7_row 28 = .ok (.iload_n 3, 1) := by decide +kernel
theorem dX7_row_29 : decode cX7_row 29 = .ok (.iconst 1, 1) := by decide +kernel
theorem dX7_row_30 : decode cX7_row 30 = .ok (.if_icmp .le 6, 3) := by decide +kernel
theorem dX7_row_33 : decode cX7_row 33 = .ok (.ldc 65, 2) := by decide +kernel
theorem dX7_row_35 : decode cX7_row 35 = .ok (.ireturn, 1) := by decide +kernel
theorem dX7_row_36 : decode cX7_row 36 = .ok (.aload_n 0, 1) := by decide +kernel
theorem dX7_row_37 : decode cX7_row 37 = .ok (.getfield 33, 3) := by decide +kernel
theorem dX7_row_40 : decode cX7_row 40 = .ok (.iload_n 1, 1) := by decide +kernel
theorem dX7_row_41 : decode cX7_row 41 = .ok (.invokevirtual 158, 3) := by decide +kernel
theorem dX7_row_44 : decode cX7_row 44 = .ok (.istore 4, 2) := by decide +kernel
theorem dX7_row_46 : decode cX7_row 46 = .ok (.iload 4, 2) := by decide +kernel
theorem dX7_row_48 : decode cX7_row 48 = .ok (.iconst (-1), 1) := by decide +kernel
theorem dX7_row_49 : decode cX7_row 49 = .ok (.if_icmp .ne 6, 3) := by decide +kernel
theorem dX7_row_52 : decode cX7_row 52 = .ok (.ldc 198, 2) := by decide +kernel
theorem dX7_row_54 : decode cX7_row 54 = .ok (.ireturn, 1) := by decide +kernel
theorem dX7_row_55 : decode cX7_row 55 = .ok (.aload_n 0, 1) := by decide +kernel
theorem dX7_row_56 : decode cX7_row 56 = .ok (.iload_n 2, 1) := by decide +kernel
theorem dX7_row_57 : decode cX7_row 57 = .ok (.invokevirtual 255, 3) := by decide +kernel
theorem dX7_row_60 : decode cX7_row 60 = .ok (.aload_n 0, 1) := by decide +kernel
theorem dX7_row_61 : decode cX7_row 61 = .ok (.iload 4, 2) := by decide +kernel
theorem dX7_row_63 : decode cX7_row 63 = .ok (.invokevirtual 258, 3) := by decide +kernel
theorem dX7_row_66 : decode cX7_row 66 = .ok (.istore 5, 2) := by decide +kernel
theorem dX7_row_68 : decode cX7_row 68 = .ok (.iload_n 3, 1) := by decide +kernel
theorem dX7_row_69 : decode cX7_row 69 = .ok (.ifCond .ne 8, 3) := by decide +kernel
theorem dX7_row_72 : decode cX7_row 72 = .ok (.iload 5, 2) := by decide +kernel
theorem dX7_row_74 : decode cX7_row 74 = .ok (.goto 11, 3) := by decide +kernel
theorem dX7_row_77 : decode cX7_row 77 = .ok (.aload_n 0, 1) := by decide +kernel
theorem dX7_row_78 : decode cX7_row 78 = .ok (.iload 4, 2) := by decide +kernel
theorem dX7_row_80 : decode cX7_row 80 = .ok (.iload 5, 2) := by decide +kernel
theorem dX7_row_82 : decode cX7_row 82 = .ok (.invokevirtual 261, 3) := by decide +kernel
theorem dX7_row_85 : decode cX7_row 85 = .ok (.ireturn, 1) := by decide +kernel
theorem dX7_tells_0 : decode cX7_tells 0 = .ok (.aload_n 0, 1) := by decide +kernel
theorem dX7_tells_1 : decode cX7_tells 1 = .ok (.invokevirtual 136, 3) := by decide +kernel
theorem dX7_tells_4 : decode cX7_tells 4 = .ok (.istore_n 1, 1) := by decide +kernel
theorem dX7_tells_5 : decode cX7_tells 5 = .ok (.iload_n 1, 1) := by decide +kernel
theorem dX7_tells_6 : decode cX7_tells 6 = .ok (.invokestatic 264, 3) := by decide +kernel
theorem dX7_tells_9 : decode cX7_tells 9 = .ok (.istore_n 2, 1) := by decide +kernel
theorem dX7_tells_10 : decode cX7_tells 10 = .ok (.iconst (-1), 1) := by decide +kernel
theorem dX7_tells_11 : decode cX7_tells 11 = .ok (.istore_n 3, 1) := by decide +kernel
theorem dX7_tells_12 : decode cX7_tells 12 = .ok (.iconst 0, 1) := by decide +kernel
theorem dX7_tells_13 : decode cX7_tells 13 = .ok (.istore 4, 2) := by decide +kernel
theorem dX7_tells_15 : decode cX7_tells 15 = .ok (.iload 4, 2) := by decide +kernel
theorem dX7_tells_17 : decode cX7_tells 17 = .ok (.aload_n 0, 1) := by decide +kernel
theorem dX7_tells_18 : decode cX7_tells 18 = .ok (.getfield 26, 3) := by decide +kernel
theorem dX7_tells_21 : decode cX7_tells 21 = .ok (.getfield 88, 3) := by decide +kernel
theorem dX7_tells_24 : decode cX7_tells 24 = .ok (.if_icmp .ge 62, 3) := by decide +kernel
theorem dX7_tells_27 : decode cX7_tells 27 = .ok (.iload 4, 2) := by decide +kernel
theorem dX7_tells_29 : decode cX7_tells 29 = .ok (.iconst 1, 1) := by decide +kernel
theorem dX7_tells_30 : decode cX7_tells 30 = .ok (.iadd, 1) := by decide +kernel
theorem dX7_tells_31 : decode cX7_tells 31 = .ok (.istore 5, 2) := by decide +kernel
theorem dX7_tells_33 : decode cX7_tells 33 = .ok (.iload 5, 2) := by decide +kernel
theorem dX7_tells_35 : decode cX7_tells 35 = .ok (.aload_n 0, 1) := by decide +kernel
theorem dX7_tells_36 : decode cX7_tells 36 = .ok (.getfield 26, 3) := by decide +kernel
theorem dX7_tells_39 : decode cX7_tells 39 = .ok (.getfield 88, 3) := by decide +kernel
theorem dX7_tells_42 : decode cX7_tells 42 = .ok (.if_icmp .ge 38, 3) := by decide +kernel
theorem dX7_tells_45 : decode cX7_tells 45 = .ok (.aload_n 0, 1) := by decide +kernel
theorem dX7_tells_46 : decode cX7_tells 46 = .ok (.iload 4, 2) := by decide +kernel
theorem dX7_tells_48 : decode cX7_tells 48 = .ok (.iload 5, 2) := by decide +kernel
theorem dX7_tells_50 : decode cX7_tells 50 = .ok (.iload_n 1, 1) := by decide +kernel
theorem dX7_tells_51 : decode cX7_tells 51 = .ok (.invokevirtual 269, 3) := by decide +kernel
theorem dX7_tells_54 : decode cX7_tells 54 = .ok (.istore 6, 2) := by decide +kernel
theorem dX7_tells_56 : decode cX7_tells 56 = .ok (.iload 6, 2) := by decide +kernel
theorem dX7_tells_58 : decode cX7_tells 58 = .ok (.iload_n 2, 1) := by decide +kernel
theorem dX7_tells_59 : decode cX7_tells 59 = .ok (.if_icmp .ge 15, 3) := by decide +kernel
theorem dX7_tells_62 : decode cX7_tells 62 = .ok (.iload 6, 2) := by decide +kernel
theorem dX7_tells_64 : decode cX7_tells 64 = .ok (.istore_n 2, 1) := by decide +kernel
theorem dX7_tells_65 : decode cX7_tells 65 = .ok (.bipush 100, 2) := by decide +kernel
theorem dX7_tells_67 : decode cX7_tells 67 = .ok (.iload 4, 2) := by decide +kernel
theorem dX7_tells_69 : decode cX7_tells 69 = .ok (.imul, 1) := by decide +kernel
theorem dX7_tells_70 : decode cX7_tells 70 = .ok (.iload 5, 2) := by decide +kernel
theorem dX7_tells_72 : decode cX7_tells 72 = .ok (.iadd, 1) := by decide +kernel
theorem dX7_tells_73 : decode cX7_tells 73 = .ok (.istore_n 3, 1) := by decide +kernel
theorem dX7_tells_74 : decode cX7_tells 74 = .ok (.iinc 5 1, 3) := by decide +kernel
theorem dX7_tells_77 : decode cX7_tells 77 = .ok (.goto (-44), 3) := by decide +kernel
theorem dX7_tells_80 : decode cX7_tells 80 = .ok (.iinc 4 1, 3) := by decide +kernel
theorem dX7_tells_83 : decode cX7_tells 83 = .ok (.goto (-68), 3) := by decide +kernel
theorem dX7_tells_86 : decode cX7_tells 86 = .ok (.iload_n 3, 1) := by decide +kernel
theorem dX7_tells_87 : decode cX7_tells 87 = .ok (.ireturn, 1) := by decide +kernel
theorem dX7_odds_0 : decode cX7_odds 0 = .ok (.aload_n 0, 1) := by decide +kernel
theorem dX7_odds_1 : decode cX7_odds 1 = .ok (.getfield 26, 3) := by decide +kernel
theorem dX7_odds_4 : decode cX7_odds 4 = .ok (.iload_n 1, 1) := by decide +kernel
theorem dX7_odds_5 : decode cX7_odds 5 = .ok (.iload_n 2, 1) := by decide +kernel
theorem dX7_odds_6 : decode cX7_odds 6 = .ok (.invokevirtual 209, 3) := by decide +kernel
theorem dX7_odds_9 : decode cX7_odds 9 = .ok (.ifCond .ne 6, 3) := by decide +kernel
theorem dX7_odds_12 : decode cX7_odds 12 = .ok (.ldc 150, 2) := by decide +kernel
theorem dX7_odds_14 : decode cX7_odds 14 = .ok (.ireturn, 1) := by decide +kernel
theorem dX7_odds_15 : decode cX7_odds 15 = .ok (.iconst 0, 1) := by decide +kernel
theorem dX7_odds_16 : decode cX7_odds 16 = .ok (.istore_n 3, 1) := by decide +kernel
theorem dX7_odds_17 : decode cX7_odds 17 = .ok (.iconst 0, 1) := by decide +kernel
theorem dX7_odds_18 : decode cX7_odds 18 = .ok (.istore 4, 2) := by decide +kernel
theorem dX7_odds_20 : decode cX7_odds 20 = .ok (.iload 4, 2) := by decide +kernel
theorem dX7_odds_22 : decode cX7_odds 22 = .ok (.aload_n 0, 1) := by decide +kernel
theorem dX7_odds_23 : decode cX7_odds 23 = .ok (.getfield 33, 3) := by decide +kernel
theorem dX7_odds_26 : decode cX7_odds 26 = .ok (.getfield 120, 3) := by decide +kernel
theorem dX7_odds_29 : decode cX7_odds 29 = .ok (.if_icmp .ge 39, 3) := by decide +kernel
theorem dX7_odds_32 : decode cX7_odds 32 = .ok (.aload_n 0, 1) := by decide +kernel
theorem dX7_odds_33 : decode cX7_odds 33 = .ok (.getfield 26, 3) := by decide +kernel
theorem dX7_odds_36 : decode cX7_odds 36 = .ok (.aload_n 0, 1) := by decide +kernel
theorem dX7_odds_37 : decode cX7_odds 37 = .ok (.getfield 33, 3) := by decide +kernel
theorem dX7_odds_40 : decode cX7_odds 40 = .ok (.iload 4, 2) := by decide +kernel
theorem dX7_odds_42 : decode cX7_odds 42 = .ok (.invokevirtual 164, 3) := by decide +kernel
theorem dX7_odds_45 : decode cX7_odds 45 = .ok (.aload_n 0, 1) := by decide +kernel
theorem dX7_odds_46 : decode cX7_odds 46 = .ok (.getfield 33, 3) := by decide +kernel
theorem dX7_odds_49 : decode cX7_odds 49 = .ok (.iload_n 2, 1) := by decide +kernel
theorem dX7_odds_50 : decode cX7_odds 50 = .ok (.invokevirtual 170, 3) := by decide +kernel
theorem dX7_odds_53 : decode cX7_odds 53 = .ok (.invokevirtual 239, 3) := by decide +kernel
theorem dX7_odds_56 : decode cX7_odds 56 = .ok (.ifCond .ne 6, 3) := by decide +kernel
theorem dX7_odds_59 : decode cX7_odds 59 = .ok (.iinc 3 1, 3) := by decide +kernel
theorem dX7_odds_62 : decode cX7_odds 62 = .ok (.iinc 4 1, 3) := by decide +kernel
theorem dX7_odds_65 : decode cX7_odds 65 = .ok (.goto (-45), 3) := by decide +kernel
theorem dX7_odds_68 : decode cX7_odds 68 = .ok (.aload_n 0, 1) := by decide +kernel
theorem dX7_odds_69 : decode cX7_odds 69 = .ok (.getfield 33, 3) := by decide +kernel
theorem dX7_odds_72 : decode cX7_odds 72 = .ok (.getfield 120, 3) := by decide +kernel
theorem dX7_odds_75 : decode cX7_odds 75 = .ok (.ifCond .gt 7, 3) := by decide +kernel
theorem dX7_odds_78 : decode cX7_odds 78 = .ok (.iconst 0, 1) := by decide +kernel
theorem dX7_odds_79 : decode cX7_odds 79 = .ok (.goto 16, 3) := by decide +kernel
theorem dX7_odds_82 : decode cX7_odds 82 = .ok (.ldc_w 272, 3) := by decide +kernel
theorem dX7_odds_85 : decode cX7_odds 85 = .ok (.iload_n 3, 1) := by decide +kernel
theorem dX7_odds_86 : decode cX7_odds 86 = .ok (.imul, 1) := by decide +kernel
theorem dX7_odds_87 : decode cX7_odds 87 = .ok (.aload_n 0, 1) := by decide +kernel
theorem dX7_odds_88 : decode cX7_odds 88 = .ok (.getfield 33, 3) := by decide +kernel
theorem dX7_odds_91 : decode cX7_odds 91 = .ok (.getfield 120, 3) := by decide +kernel
theorem dX7_odds_94 : decode cX7_odds 94 = .ok (.idiv, 1) := by decide +kernel
theorem dX7_odds_95 : decode cX7_odds 95 = .ok (.ireturn, 1) := by decide +kernel
theorem dX7_back_0 : decode cX7_back 0 = .ok (.aload_n 0, 1) := by decide +kernel
theorem dX7_back_1 : decode cX7_back 1 = .ok (.getfield 26, 3) := by decide +kernel
theorem dX7_back_4 : decode cX7_back 4 = .ok (.iload_n 1, 1) := by decide +kernel
theorem dX7_back_5 : decode cX7_back 5 = .ok (.invokevirtual 167, 3) := by decide +kernel
theorem dX7_back_8 : decode cX7_back 8 = .ok (.ifCond .ne 6, 3) := by decide +kernel
theorem dX7_back_11 : decode cX7_back 11 = .ok (.ldc 150, 2) := by decide +kernel
theorem dX7_back_13 : decode cX7_back 13 = .ok (.ireturn, 1) := by decide +kernel
theorem dX7_back_14 : decode cX7_back 14 = .ok (.aload_n 0, 1) := by decide +kernel
theorem dX7_back_15 : decode cX7_back 15 = .ok (.getfield 33, 3) := by decide +kernel
theorem dX7_back_18 : decode cX7_back 18 = .ok (.iload_n 1, 1) := by decide +kernel
theorem dX7_back_19 : decode cX7_back 19 = .ok (.invokevirtual 170, 3) := by decide +kernel
theorem dX7_back_22 : decode cX7_back 22 = .ok (.iconst (-1), 1) := by decide +kernel
theorem dX7_back_23 : decode cX7_back 23 = .ok (.if_icmp .ne 6, 3) := by decide +kernel
theorem dX7_back_26 : decode cX7_back 26 = .ok (.ldc 198, 2) := by decide +kernel
theorem dX7_back_28 : decode cX7_back 28 = .ok (.ireturn, 1) := by decide +kernel
theorem dX7_back_29 : decode cX7_back 29 = .ok (.iconst 0, 1) := by decide +kernel
theorem dX7_back_30 : decode cX7_back 30 = .ok (.istore_n 2, 1) := by decide +kernel
theorem dX7_back_31 : decode cX7_back 31 = .ok (.iconst 0, 1) := by decide +kernel
theorem dX7_back_32 : decode cX7_back 32 = .ok (.istore_n 3, 1) := by decide +kernel
theorem dX7_back_33 : decode cX7_back 33 = .ok (.iload_n 3, 1) := by decide +kernel
theorem dX7_back_34 : decode cX7_back 34 = .ok (.aload_n 0, 1) := by decide +kernel
theorem dX7_back_35 : decode cX7_back 35 = .ok (.getfield 26, 3) := by decide +kernel
theorem dX7_back_38 : decode cX7_back 38 = .ok (.getfield 105, 3) := by decide +kernel
theorem dX7_back_41 : decode cX7_back 41 = .ok (.if_icmp .ge 21, 3) := by decide +kernel
theorem dX7_back_44 : decode cX7_back 44 = .ok (.aload_n 0, 1) := by decide +kernel
theorem dX7_back_45 : decode cX7_back 45 = .ok (.iload_n 3, 1) := by decide +kernel
theorem dX7_back_46 : decode cX7_back 46 = .ok (.iload_n 1, 1) := by decide +kernel
theorem dX7_back_47 : decode cX7_back 47 = .ok (.invokevirtual 273, 3) := by decide +kernel
theorem dX7_back_50 : decode cX7_back 50 = .ok (.ifCond .eq 6, 3) := by decide +kernel
theorem dX7_back_53 : decode cX7_back 53 = .ok (.iinc 2 1, 3) := by decide +kernel
theorem dX7_back_56 : decode cX7_back 56 = .ok (.iinc 3 1, 3) := by decide +kernel
theorem dX7_back_59 : decode cX7_back 59 = .ok (.goto (-26), 3) := by decide +kernel
theorem dX7_back_62 : decode cX7_back 62 = .ok (.iload_n 2, 1) := by decide +kernel
theorem dX7_back_63 : decode cX7_back 63 = .ok (.aload_n 0, 1) := by decide +kernel
theorem dX7_back_64 : decode cX7_back 64 = .ok (.iload_n 1, 1) := by decide +kernel
theorem dX7_back_65 : decode cX7_back 65 = .ok (.invokevirtual 176, 3) := by decide +kernel
theorem dX7_back_68 : decode cX7_back 68 = .ok (.invokestatic 264, 3) := by decide +kernel
theorem dX7_back_71 : decode cX7_back 71 = .ok (.if_icmp .le 7, 3) := by decide +kernel
theorem dX7_back_74 : decode cX7_back 74 = .ok (.iconst 1, 1) := by decide +kernel
theorem dX7_back_75 : decode cX7_back 75 = .ok (.goto 4, 3) := by decide +kernel
theorem dX7_back_78 : decode cX7_back 78 = .ok (.iconst 0, 1) := by decide +kernel
theorem dX7_back_79 : decode cX7_back 79 = .ok (.ireturn, 1) := by decide +kernel
theorem dX7_missing_0 : decode cX7_missing 0 = .ok (.aload_n 0, 1) := by decide +kernel
theorem dX7_missing_1 : decode cX7_missing 1 = .ok (.getfield 26, 3) := by decide +kernel
theorem dX7_missing_4 : decode cX7_missing 4 = .ok (.getfield 220, 3) := by decide +kernel
theorem dX7_missing_7 : decode cX7_missing 7 = .ok (.ifCond .ne 6, 3) := by decide +kernel
theorem dX7_missing_10 : decode cX7_missing 10 = .ok (.ldc 198, 2) := by decide +kernel
theorem dX7_missing_12 : decode cX7_missing 12 = .ok (.ireturn, 1) := by decide +kernel
theorem dX7_missing_13 : decode cX7_missing 13 = .ok (.iconst 0, 1) := by decide +kernel
theorem dX7_missing_14 : decode cX7_missing 14 = .ok (.istore_n 2, 1) := by decide +kernel
theorem dX7_missing_15 : decode cX7_missing 15 = .ok (.iconst 0, 1) := by decide +kernel
theorem dX7_missing_16 : decode cX7_missing 16 = .ok (.istore_n 3, 1) := by decide +kernel
theorem dX7_missing_17 : decode cX7_missing 17 = .ok (.iload_n 3, 1) := by decide +kernel
theorem dX7_missing_18 : decode cX7_missing 18 = .ok (.bipush 52, 2) := by decide +kernel
theorem dX7_missing_20 : decode cX7_missing 20 = .ok (.if_icmp .ge 30, 3) := by decide +kernel
theorem dX7_missing_23 : decode cX7_missing 23 = .ok (.aload_n 0, 1) := by decide +kernel
theorem dX7_missing_24 : decode cX7_missing 24 = .ok (.getfield 26, 3) := by decide +kernel
theorem dX7_missing_27 : decode cX7_missing 27 = .ok (.iload_n 3, 1) := by decide +kernel
theorem dX7_missing_28 : decode cX7_missing 28 = .ok (.invokevirtual 276, 3) := by decide +kernel
theorem dX7_missing_31 : decode cX7_missing 31 = .ok (.ifCond .ne 13, 3) := by decide +kernel
theorem dX7_missing_34 : decode cX7_missing 34 = .ok (.iload_n 2, 1) := by decide +kernel
theorem dX7_missing_35 : decode cX7_missing 35 = .ok (.iload_n 1, 1) := by decide +kernel
theorem dX7_missing_36 : decode cX7_missing 36 = .ok (.if_icmp .ne 5, 3) := by decide +kernel
theorem dX7_missing_39 : decode cX7_missing 39 = .ok (.iload_n 3, 1) := by decide +kernel
theorem dX7_missing_40 : decode cX7_missing 40 = .ok (.ireturn, 1) := by decide +kernel
theorem dX7_missing_41 : decode cX7_missing 41 = .ok (.iinc 2 1, 3) := by decide +kernel
theorem dX7_missing_44 : decode cX7_missing 44 = .ok (.iinc 3 1, 3) := by decide +kernel
theorem dX7_missing_47 : decode cX7_missing 47 = .ok (.goto (-30), 3) := by decide +kernel
theorem dX7_missing_50 : decode cX7_missing 50 = .ok (.iload_n 1, 1) := by decide +kernel
theorem dX7_missing_51 : decode cX7_missing 51 = .ok (.iconst (-1), 1) := by decide +kernel
theorem dX7_missing_52 : decode cX7_missing 52 = .ok (.if_icmp .ne 7, 3) := by decide +kernel
theorem dX7_missing_55 : decode cX7_missing 55 = .ok (.iload_n 2, 1) := by decide +kernel
theorem dX7_missing_56 : decode cX7_missing 56 = .ok (.goto 4, 3) := by decide +kernel
theorem dX7_missing_59 : decode cX7_missing 59 = .ok (.iconst (-1), 1) := by decide +kernel
theorem dX7_missing_60 : decode cX7_missing 60 = .ok (.ireturn, 1) := by decide +kernel
theorem dX7_wanted_0 : decode cX7_wanted 0 = .ok (.iload_n 1, 1) := by decide +kernel
theorem dX7_wanted_1 : decode cX7_wanted 1 = .ok (.ifCond .lt 8, 3) := by decide +kernel
theorem dX7_wanted_4 : decode cX7_wanted 4 = .ok (.iload_n 1, 1) := by decide +kernel
theorem dX7_wanted_5 : decode cX7_wanted 5 = .ok (.iconst 1, 1) := by decide +kernel
theorem dX7_wanted_6 : decode cX7_wanted 6 = .ok (.if_icmp .le 6, 3) := by decide +kernel
theorem dX7_wanted_9 : decode cX7_wanted 9 = .ok (.ldc 65, 2) := by decide +kernel
theorem dX7_wanted_11 : decode cX7_wanted 11 = .ok (.ireturn, 1) := by decide +kernel
theorem dX7_wanted_12 : decode cX7_wanted 12 = .ok (.iconst (-1), 1) := by decide +kernel
theorem dX7_wanted_13 : decode cX7_wanted 13 = .ok (.istore_n 2, 1) := by decide +kernel
theorem dX7_wanted_14 : decode cX7_wanted 14 = .ok (.bipush 6, 2) := by decide +kernel
theorem dX7_wanted_16 : decode cX7_wanted 16 = .ok (.istore_n 3, 1) := by decide +kernel
theorem dX7_wanted_17 : decode cX7_wanted 17 = .ok (.iconst 0, 1) := by decide +kernel
theorem dX7_wanted_18 : decode cX7_wanted 18 = .ok (.istore 4, 2) := by decide +kernel
theorem dX7_wanted_20 : decode cX7_wanted 20 = .ok (.iload 4, 2) := by decide +kernel
theorem dX7_wanted_22 : decode cX7_wanted 22 = .ok (.aload_n 0, 1) := by decide +kernel
theorem dX7_wanted_23 : decode cX7_wanted 23 = .ok (.getfield 26, 3) := by decide +kernel
theorem dX7_wanted_26 : decode cX7_wanted 26 = .ok (.getfield 105, 3) := by decide +kernel
theorem dX7_wanted_29 : decode cX7_wanted 29 = .ok (.if_icmp .ge 32, 3) := by decide +kernel
theorem dX7_wanted_32 : decode cX7_wanted 32 = .ok (.aload_n 0, 1) := by decide +kernel
theorem dX7_wanted_33 : decode cX7_wanted 33 = .ok (.iload 4, 2) := by decide +kernel
theorem dX7_wanted_35 : decode cX7_wanted 35 = .ok (.invokevirtual 176, 3) := by decide +kernel
theorem dX7_wanted_38 : decode cX7_wanted 38 = .ok (.invokestatic 264, 3) := by decide +kernel
theorem dX7_wanted_41 : decode cX7_wanted 41 = .ok (.istore 5, 2) := by decide +kernel
theorem dX7_wanted_43 : decode cX7_wanted 43 = .ok (.iload 5, 2) := by decide +kernel
theorem dX7_wanted_45 : decode cX7_wanted 45 = .ok (.iload_n 3, 1) := by decide +kernel
theorem dX7_wanted_46 : decode cX7_wanted 46 = .ok (.if_icmp .ge 9, 3) := by decide +kernel
theorem dX7_wanted_49 : decode cX7_wanted 49 = .ok (.iload 5, 2) := by decide +kernel
theorem dX7_wanted_51 : decode cX7_wanted 51 = .ok (.istore_n 3, 1) := by decide +kernel
theorem dX7_wanted_52 : decode cX7_wanted 52 = .ok (.iload 4, 2) := by decide +kernel
theorem dX7_wanted_54 : decode cX7_wanted 54 = .ok (.istore_n 2, 1) := by decide +kernel
theorem dX7_wanted_55 : decode cX7_wanted 55 = .ok (.iinc 4 1, 3) := by decide +kernel
theorem dX7_wanted_58 : decode cX7_wanted 58 = .ok (.goto (-38), 3) := by decide +kernel
theorem dX7_wanted_61 : decode cX7_wanted 61 = .ok (.iload_n 2, 1) := by decide +kernel
theorem dX7_wanted_62 : decode cX7_wanted 62 = .ok (.iconst (-1), 1) := by decide +kernel
theorem dX7_wanted_63 : decode cX7_wanted 63 = .ok (.if_icmp .eq 7, 3) := by decide +kernel
theorem dX7_wanted_66 : decode cX7_wanted 66 = .ok (.iload_n 1, 1) := by decide +kernel
theorem dX7_wanted_67 : decode cX7_wanted 67 = .ok (.ifCond .ne 5, 3) := by decide +kernel
theorem dX7_wanted_70 : decode cX7_wanted 70 = .ok (.iload_n 2, 1) := by decide +kernel
theorem dX7_wanted_71 : decode cX7_wanted 71 = .ok (.ireturn, 1) := by decide +kernel
theorem dX7_wanted_72 : decode cX7_wanted 72 = .ok (.aload_n 0, 1) := by decide +kernel
theorem dX7_wanted_73 : decode cX7_wanted 73 = .ok (.getfield 26, 3) := by decide +kernel
theorem dX7_wanted_76 : decode cX7_wanted 76 = .ok (.getfield 105, 3) := by decide +kernel
theorem dX7_wanted_79 : decode cX7_wanted 79 = .ok (.iconst 1, 1) := by decide +kernel
theorem dX7_wanted_80 : decode cX7_wanted 80 = .ok (.isub, 1) := by decide +kernel
theorem dX7_wanted_81 : decode cX7_wanted 81 = .ok (.iload_n 3, 1) := by decide +kernel
theorem dX7_wanted_82 : decode cX7_wanted 82 = .ok (.isub, 1) := by decide +kernel
theorem dX7_wanted_83 : decode cX7_wanted 83 = .ok (.ireturn, 1) := by decide +kernel
theorem dX7_see_0 : decode cX7_see 0 = .ok (.aload_n 0, 1) := by decide +kernel
theorem dX7_see_1 : decode cX7_see 1 = .ok (.getfield 26, 3) := by decide +kernel
theorem dX7_see_4 : decode cX7_see 4 = .ok (.iload_n 1, 1) := by decide +kernel
theorem dX7_see_5 : decode cX7_see 5 = .ok (.iload_n 2, 1) := by decide +kernel
theorem dX7_see_6 : decode cX7_see 6 = .ok (.invokevirtual 209, 3) := by decide +kernel
theorem dX7_see_9 : decode cX7_see 9 = .ok (.ifCond .ne 6, 3) := by decide +kernel
theorem dX7_see_12 : decode cX7_see 12 = .ok (.ldc 150, 2) := by decide +kernel
theorem dX7_see_14 : decode cX7_see 14 = .ok (.ireturn, 1) := by decide +kernel
theorem dX7_see_15 : decode cX7_see 15 = .ok (.iload_n 3, 1) := by decide +kernel
theorem dX7_see_16 : decode cX7_see 16 = .ok (.ifCond .lt 8, 3) := by decide +kernel
theorem dX7_see_19 : decode cX7_see 19 = .ok (.iload_n 3, 1) := by decide +kernel
theorem dX7_see_20 : decode cX7_see 20 = .ok (.iconst 2, 1) := by decide +kernel
theorem dX7_see_21 : decode cX7_see 21 = .ok (.if_icmp .le 6, 3) := by decide +kernel
theorem dX7_see_24 : decode cX7_see 24 = .ok (.ldc 65, 2) := by decide +kernel
theorem dX7_see_26 : decode cX7_see 26 = .ok (.ireturn, 1) := by decide +kernel
theorem dX7_see_27 : decode cX7_see 27 = .ok (.aload_n 0, 1) := by decide +kernel
theorem dX7_see_28 : decode cX7_see 28 = .ok (.getfield 47, 3) := by decide +kernel
theorem dX7_see_31 : decode cX7_see 31 = .ok (.iload_n 1, 1) := by decide +kernel
theorem dX7_see_32 : decode cX7_see 32 = .ok (.iload_n 2, 1) := by decide +kernel
theorem dX7_see_33 : decode cX7_see 33 = .ok (.iload_n 3, 1) := by decide +kernel
theorem dX7_see_34 : decode cX7_see 34 = .ok (.invokevirtual 279, 3) := by decide +kernel
theorem dX7_see_37 : decode cX7_see 37 = .ok (.ifCond .eq 13, 3) := by decide +kernel
theorem dX7_see_40 : decode cX7_see 40 = .ok (.aload_n 0, 1) := by decide +kernel
theorem dX7_see_41 : decode cX7_see 41 = .ok (.getfield 47, 3) := by decide +kernel
theorem dX7_see_44 : decode cX7_see 44 = .ok (.getfield 139, 3) := by decide +kernel
theorem dX7_see_47 : decode cX7_see 47 = .ok (.goto 5, 3) := by decide +kernel
theorem dX7_see_50 : decode cX7_see 50 = .ok (.ldc 74, 2) := by decide +kernel
theorem dX7_see_52 : decode cX7_see 52 = .ok (.ireturn, 1) := by decide +kernel
theorem dX7_deals_0 : decode cX7_deals 0 = .ok (.iload_n 2, 1) := by decide +kernel
theorem dX7_deals_1 : decode cX7_deals 1 = .ok (.iconst (-1), 1) := by decide +kernel
theorem dX7_deals_2 : decode cX7_deals 2 = .ok (.if_icmp .eq 17, 3) := by decide +kernel
theorem dX7_deals_5 : decode cX7_deals 5 = .ok (.aload_n 0, 1) := by decide +kernel
theorem dX7_deals_6 : decode cX7_deals 6 = .ok (.getfield 26, 3) := by decide +kernel
theorem dX7_deals_9 : decode cX7_deals 9 = .ok (.iload_n 2, 1) := by decide +kernel
theorem dX7_deals_10 : decode cX7_deals 10 = .ok (.invokevirtual 167, 3) := by decide +kernel
theorem dX7_deals_13 : decode cX7_deals 13 = .ok (.ifCond .ne 6, 3) := by decide +kernel
theorem dX7_deals_16 : decode cX7_deals 16 = .ok (.ldc 150, 2) := by decide +kernel
theorem dX7_deals_18 : decode cX7_deals 18 = .ok (.ireturn, 1) := by decide +kernel
theorem dX7_deals_19 : decode cX7_deals 19 = .ok (.iload_n 1, 1) := by decide +kernel
theorem dX7_deals_20 : decode cX7_deals 20 = .ok (.iconst 1, 1) := by decide +kernel
theorem dX7_deals_21 : decode cX7_deals 21 = .ok (.if_icmp .lt 8, 3) := by decide +kernel
theorem dX7_deals_24 : decode cX7_deals 24 = .ok (.iload_n 1, 1) := by decide +kernel
theorem dX7_deals_25 : decode cX7_deals 25 = .ok (.iconst 5, 1) := by decide +kernel
theorem dX7_deals_26 : decode cX7_deals 26 = .ok (.if_icmp .le 6, 3) := by decide +kernel
theorem dX7_deals_29 : decode cX7_deals 29 = .ok (.ldc 65, 2) := by decide +kernel
theorem dX7_deals_31 : decode cX7_deals 31 = .ok (.ireturn, 1) := by decide +kernel
theorem dX7_deals_32 : decode cX7_deals 32 = .ok (.aload_n 0, 1) := by decide +kernel
theorem dX7_deals_33 : decode cX7_deals 33 = .ok (.getfield 54, 3) := by decide +kernel
theorem dX7_deals_36 : decode cX7_deals 36 = .ok (.iload_n 1, 1) := by decide +kernel
theorem dX7_deals_37 : decode cX7_deals 37 = .ok (.aload_n 0, 1) := by decide +kernel
theorem dX7_deals_38 : decode cX7_deals 38 = .ok (.getfield 26, 3) := by decide +kernel
theorem dX7_deals_41 : decode cX7_deals 41 = .ok (.aload_n 0, 1) := by decide +kernel
theorem dX7_deals_42 : decode cX7_deals 42 = .ok (.getfield 33, 3) := by decide +kernel
theorem dX7_deals_45 : decode cX7_deals 45 = .ok (.aload_n 0, 1) := by decide +kernel
theorem dX7_deals_46 : decode cX7_deals 46 = .ok (.getfield 47, 3) := by decide +kernel
theorem dX7_deals_49 : decode cX7_deals 49 = .ok (.invokevirtual 282, 3) := by decide +kernel
