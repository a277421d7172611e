theorem dX5_read_43 : decode cX5_read 43 = .ok (.putfield 26, 3) := by decide +kernel
theorem dX5_read_46 : decode cX5_read 46 = .ok (.return_, 1) := by decide +kernel
theorem dX5_readAll_0 : decode cX5_readAll 0 = .ok (.aload_n 0, 1) := by decide +kernel
theorem dX5_readAll_1 : decode cX5_readAll 1 = .ok (.getfield 12, 3) := by decide +kernel
theorem dX5_readAll_4 : decode cX5_readAll 4 = .ok (.iconst 1, 1) := by decide +kernel
theorem dX5_readAll_5 : decode cX5_readAll 5 = .ok (.putfield 44, 3) := by decide +kernel
theorem dX5_readAll_8 : decode cX5_readAll 8 = .ok (.aload_n 0, 1) := by decide +kernel
theorem dX5_readAll_9 : decode cX5_readAll 9 = .ok (.invokevirtual 48, 3) := by decide +kernel
theorem dX5_readAll_12 : decode cX5_readAll 12 = .ok (.aload_n 0, 1) := by decide +kernel
theorem dX5_readAll_13 : decode cX5_readAll 13 = .ok (.invokevirtual 38, 3) := by decide +kernel
theorem dX5_readAll_16 : decode cX5_readAll 16 = .ok (.iconst 0, 1) := by decide +kernel
theorem dX5_readAll_17 : decode cX5_readAll 17 = .ok (.istore_n 1, 1) := by decide +kernel
theorem dX5_readAll_18 : decode cX5_readAll 18 = .ok (.iload_n 1, 1) := by decide +kernel
theorem dX5_readAll_19 : decode cX5_readAll 19 = .ok (.sipush 240, 3) := by decide +kernel
theorem dX5_readAll_22 : decode cX5_readAll 22 = .ok (.if_icmp .ge 35, 3) := by decide +kernel
theorem dX5_readAll_25 : decode cX5_readAll 25 = .ok (.aload_n 0, 1) := by decide +kernel
theorem dX5_readAll_26 : decode cX5_readAll 26 = .ok (.getfield 32, 3) := by decide +kernel
theorem dX5_readAll_29 : decode cX5_readAll 29 = .ok (.ifCond .ne 28, 3) := by decide +kernel
theorem dX5_readAll_32 : decode cX5_readAll 32 = .ok (.aload_n 0, 1) := by decide +kernel
theorem dX5_readAll_33 : decode cX5_readAll 33 = .ok (.getfield 29, 3) := by decide +kernel
theorem dX5_readAll_36 : decode cX5_readAll 36 = .ok (.aload_n 0, 1) := by decide +kernel
theorem dX5_readAll_37 : decode cX5_readAll 37 = .ok (.getfield 26, 3) := by decide +kernel
theorem dX5_readAll_40 : decode cX5_readAll 40 = .ok (.if_icmp .ge 17, 3) := by decide +kernel
theorem dX5_readAll_43 : decode cX5_readAll 43 = .ok (.aload_n 0, 1) := by decide +kernel
theorem dX5_readAll_44 : decode cX5_readAll 44 = .ok (.invokevirtual 51, 3) := by decide +kernel
theorem dX5_readAll_47 : decode cX5_readAll 47 = .ok (.aload_n 0, 1) := by decide +kernel
theorem dX5_readAll_48 : decode cX5_readAll 48 = .ok (.invokevirtual 38, 3) := by decide +kernel
theorem dX5_readAll_51 : decode cX5_readAll 51 = .ok (.iinc 1 1, 3) := by decide +kernel
theorem dX5_readAll_54 : decode cX5_readAll 54 = .ok (.goto (-36), 3) := by decide +kernel
theorem dX5_readAll_57 : decode cX5_readAll 57 = .ok (.return_, 1) := by decide +kernel
theorem dX5_readRules_0 : decode cX5_readRules 0 = .ok (.aload_n 0, 1) := by decide +kernel
theorem dX5_readRules_1 : decode cX5_readRules 1 = .ok (.bipush 114, 2) := by decide +kernel
theorem dX5_readRules_3 : decode cX5_readRules 3 = .ok (.invokevirtual 54, 3) := by decide +kernel
theorem dX5_readRules_6 : decode cX5_readRules 6 = .ok (.aload_n 0, 1) := by decide +kernel
theorem dX5_readRules_7 : decode cX5_readRules 7 = .ok (.getfield 12, 3) := by decide +kernel
theorem dX5_readRules_10 : decode cX5_readRules 10 = .ok (.aload_n 0, 1) := by decide +kernel
theorem dX5_readRules_11 : decode cX5_readRules 11 = .ok (.iconst 0, 1) := by decide +kernel
theorem dX5_readRules_12 : decode cX5_readRules 12 = .ok (.iconst 4, 1) := by decide +kernel
theorem dX5_readRules_13 : decode cX5_readRules 13 = .ok (.invokevirtual 58, 3) := by decide +kernel
theorem dX5_readRules_16 : decode cX5_readRules 16 = .ok (.putfield 62, 3) := by decide +kernel
theorem dX5_readRules_19 : decode cX5_readRules 19 = .ok (.aload_n 0, 1) := by decide +kernel
theorem dX5_readRules_20 : decode cX5_readRules 20 = .ok (.getfield 12, 3) := by decide +kernel
theorem dX5_readRules_23 : decode cX5_readRules 23 = .ok (.aload_n 0, 1) := by decide +kernel
theorem dX5_readRules_24 : decode cX5_readRules 24 = .ok (.iconst 0, 1) := by decide +kernel
theorem dX5_readRules_25 : decode cX5_readRules 25 = .ok (.iconst 1, 1) := by decide +kernel
theorem dX5_readRules_26 : decode cX5_readRules 26 = .ok (.invokevirtual 58, 3) := by decide +kernel
theorem dX5_readRules_29 : decode cX5_readRules 29 = .ok (.putfield 65, 3) := by decide +kernel
theorem dX5_readRules_32 : decode cX5_readRules 32 = .ok (.aload_n 0, 1) := by decide +kernel
theorem dX5_readRules_33 : decode cX5_readRules 33 = .ok (.getfield 12, 3) := by decide +kernel
theorem dX5_readRules_36 : decode cX5_readRules 36 = .ok (.aload_n 0, 1) := by decide +kernel
theorem dX5_readRules_37 : decode cX5_readRules 37 = .ok (.iconst 0, 1) := by decide +kernel
theorem dX5_readRules_38 : decode cX5_readRules 38 = .ok (.iconst 1, 1) := by decide +kernel
theorem dX5_readRules_39 : decode cX5_readRules 39 = .ok (.invokevirtual 58, 3) := by decide +kernel
theorem dX5_readRules_42 : decode cX5_readRules 42 = .ok (.putfield 68, 3) := by decide +kernel
theorem dX5_readRules_45 : decode cX5_readRules 45 = .ok (.aload_n 0, 1) := by decide +kernel
theorem dX5_readRules_46 : decode cX5_readRules 46 = .ok (.bipush 59, 2) := by decide +kernel
theorem dX5_readRules_48 : decode cX5_readRules 48 = .ok (.invokevirtual 54, 3) := by decide +kernel
theorem dX5_readRules_51 : decode cX5_readRules 51 = .ok (.return_, 1) := by decide +kernel
theorem dX5_readClause_0 : decode cX5_readClause 0 = .ok (.aload_n 0, 1) := by decide +kernel
theorem dX5_readClause_1 : decode cX5_readClause 1 = .ok (.aload_n 0, 1) := by decide +kernel
theorem dX5_readClause_2 : decode cX5_readClause 2 = .ok (.getfield 29, 3) := by decide +kernel
theorem dX5_readClause_5 : decode cX5_readClause 5 = .ok (.invokevirtual 71, 3) := by decide +kernel
theorem dX5_readClause_8 : decode cX5_readClause 8 = .ok (.istore_n 1, 1) := by decide +kernel
theorem dX5_readClause_9 : decode cX5_readClause 9 = .ok (.iload_n 1, 1) := by decide +kernel
theorem dX5_readClause_10 : decode cX5_readClause 10 = .ok (.bipush 99, 2) := by decide +kernel
theorem dX5_readClause_12 : decode cX5_readClause 12 = .ok (.if_icmp .ne 10, 3) := by decide +kernel
theorem dX5_readClause_15 : decode cX5_readClause 15 = .ok (.aload_n 0, 1) := by decide +kernel
theorem dX5_readClause_16 : decode cX5_readClause 16 = .ok (.invokevirtual 75, 3) := by decide +kernel
theorem dX5_readClause_19 : decode cX5_readClause 19 = .ok (.goto 35, 3) := by decide +kernel
theorem dX5_readClause_22 : decode cX5_readClause 22 = .ok (.iload_n 1, 1) := by decide +kernel
theorem dX5_readClause_23 : decode cX5_readClause 23 = .ok (.bipush 112, 2) := by decide +kernel
theorem dX5_readClause_25 : decode cX5_readClause 25 = .ok (.if_icmp .ne 10, 3) := by decide +kernel
theorem dX5_readClause_28 : decode cX5_readClause 28 = .ok (.aload_n 0, 1) := by decide +kernel
theorem dX5_readClause_29 : decode cX5_readClause 29 = .ok (.invokevirtual 78, 3) := by decide +kernel
theorem dX5_readClause_32 : decode cX5_readClause 32 = .ok (.goto 22, 3) := by decide +kernel
theorem dX5_readClause_35 : decode cX5_readClause 35 = .ok (.aload_n 0, 1) := by decide +kernel
theorem dX5_readClause_36 : decode cX5_readClause 36 = .ok (.iload_n 1, 1) := by decide +kernel
theorem dX5_readClause_37 : decode cX5_readClause 37 = .ok (.bipush 114, 2) := by decide +kernel
theorem dX5_readClause_39 : decode cX5_readClause 39 = .ok (.if_icmp .ne 7, 3) := by decide +kernel
theorem dX5_readClause_42 : decode cX5_readClause 42 = .ok (.iconst 3, 1) := by decide +kernel
theorem dX5_readClause_43 : decode cX5_readClause 43 = .ok (.goto 4, 3) := by decide +kernel
theorem dX5_readClause_46 : decode cX5_readClause 46 = .ok (.iconst 1, 1) := by decide +kernel
theorem dX5_readClause_47 : decode cX5_readClause 47 = .ok (.aload_n 0, 1) := by decide +kernel
theorem dX5_readClause_48 : decode cX5_readClause 48 = .ok (.getfield 29, 3) := by decide +kernel
theorem dX5_readClause_51 : decode cX5_readClause 51 = .ok (.invokevirtual 81, 3) := by decide +kernel
theorem dX5_readClause_54 : decode cX5_readClause 54 = .ok (.return_, 1) := by decide +kernel
theorem dX5_readCard_0 : decode cX5_readCard 0 = .ok (.aload_n 0, 1) := by decide +kernel
theorem dX5_readCard_1 : decode cX5_readCard 1 = .ok (.getfield 12, 3) := by decide +kernel
theorem dX5_readCard_4 : decode cX5_readCard 4 = .ok (.getfield 85, 3) := by decide +kernel
theorem dX5_readCard_7 : decode cX5_readCard 7 = .ok (.bipush 12, 2) := by decide +kernel
theorem dX5_readCard_9 : decode cX5_readCard 9 = .ok (.if_icmp .lt 12, 3) := by decide +kernel
theorem dX5_readCard_12 : decode cX5_readCard 12 = .ok (.aload_n 0, 1) := by decide +kernel
theorem dX5_readCard_13 : decode cX5_readCard 13 = .ok (.iconst 3, 1) := by decide +kernel
theorem dX5_readCard_14 : decode cX5_readCard 14 = .ok (.aload_n 0, 1) := by decide +kernel
theorem dX5_readCard_15 : decode cX5_readCard 15 = .ok (.getfield 29, 3) := by decide +kernel
theorem dX5_readCard_18 : decode cX5_readCard 18 = .ok (.invokevirtual 81, 3) := by decide +kernel
theorem dX5_readCard_21 : decode cX5_readCard 21 = .ok (.aload_n 0, 1) := by decide +kernel
theorem dX5_readCard_22 : decode cX5_readCard 22 = .ok (.bipush 99, 2) := by decide +kernel
theorem dX5_readCard_24 : decode cX5_readCard 24 = .ok (.invokevirtual 54, 3) := by decide +kernel
theorem dX5_readCard_27 : decode cX5_readCard 27 = .ok (.aload_n 0, 1) := by decide +kernel
theorem dX5_readCard_28 : decode cX5_readCard 28 = .ok (.iconst 1, 1) := by decide +kernel
theorem dX5_readCard_29 : decode cX5_readCard 29 = .ok (.bipush 13, 2) := by decide +kernel
theorem dX5_readCard_31 : decode cX5_readCard 31 = .ok (.invokevirtual 58, 3) := by decide +kernel
theorem dX5_readCard_34 : decode cX5_readCard 34 = .ok (.istore_n 1, 1) := by decide +kernel
theorem dX5_readCard_35 : decode cX5_readCard 35 = .ok (.aload_n 0, 1) := by decide +kernel
theorem dX5_readCard_36 : decode cX5_readCard 36 = .ok (.invokevirtual 38, 3) := by decide +kernel
theorem dX5_readCard_39 : decode cX5_readCard 39 = .ok (.aload_n 0, 1) := by decide +kernel
theorem dX5_readCard_40 : decode cX5_readCard 40 = .ok (.getfield 29, 3) := by decide +kernel
theorem dX5_readCard_43 : decode cX5_readCard 43 = .ok (.istore_n 2, 1) := by decide +kernel
theorem dX5_readCard_44 : decode cX5_readCard 44 = .ok (.aload_n 0, 1) := by decide +kernel
theorem dX5_readCard_45 : decode cX5_readCard 45 = .ok (.iconst 0, 1) := by decide +kernel
theorem dX5_readCard_46 : decode cX5_readCard 46 = .ok (.iconst 3, 1) := by decide +kernel
theorem dX5_readCard_47 : decode cX5_readCard 47 = .ok (.invokevirtual 58, 3) := by decide +kernel
theorem dX5_readCard_50 : decode cX5_readCard 50 = .ok (.istore_n 3, 1) := by decide +kernel
theorem dX5_readCard_51 : decode cX5_readCard 51 = .ok (.aload_n 0, 1) := by decide +kernel
theorem dX5_readCard_52 : decode cX5_readCard 52 = .ok (.getfield 32, 3) := by decide +kernel
theorem dX5_readCard_55 : decode cX5_readCard 55 = .ok (.ifCond .ne 24, 3) := by decide +kernel
theorem dX5_readCard_58 : decode cX5_readCard 58 = .ok (.aload_n 0, 1) := by decide +kernel
theorem dX5_readCard_59 : decode cX5_readCard 59 = .ok (.getfield 12, 3) := by decide +kernel
theorem dX5_readCard_62 : decode cX5_readCard 62 = .ok (.iload_n 1, 1) := by decide +kernel
theorem dX5_readCard_63 : decode cX5_readCard 63 = .ok (.iload_n 3, 1) := by decide +kernel
theorem dX5_readCard_64 : decode cX5_readCard 64 = .ok (.invokestatic 88, 3) := by decide +kernel
theorem dX5_readCard_67 : decode cX5_readCard 67 = .ok (.invokevirtual 91, 3) := by decide +kernel
theorem dX5_readCard_70 : decode cX5_readCard 70 = .ok (.ifCond .eq 9, 3) := by decide +kernel
theorem dX5_readCard_73 : decode cX5_readCard 73 = .ok (.aload_n 0, 1) := by decide +kernel
theorem dX5_readCard_74 : decode cX5_readCard 74 = .ok (.iconst 4, 1) := by decide +kernel
theorem dX5_readCard_75 : decode cX5_readCard 75 = .ok (.iload_n 2, 1) := by decide +kernel
theorem dX5_readCard_76 : decode cX5_readCard 76 = .ok (.invokevirtual 81, 3) := by decide +kernel
theorem dX5_readCard_79 : decode cX5_readCard 79 = .ok (.aload_n 0, 1) := by decide +kernel
theorem dX5_readCard_80 : decode cX5_readCard 80 = .ok (.bipush 59, 2) := by decide +kernel
theorem dX5_readCard_82 : decode cX5_readCard 82 = .ok (.invokevirtual 54, 3) := by decide +kernel
theorem dX5_readCard_85 : decode cX5_readCard 85 = .ok (.aload_n 0, 1) := by decide +kernel
theorem dX5_readCard_86 : decode cX5_readCard 86 = .ok (.getfield 32, 3) := by decide +kernel
theorem dX5_readCard_89 : decode cX5_readCard 89 = .ok (.ifCond .ne 12, 3) := by decide +kernel
theorem dX5_readCard_92 : decode cX5_readCard 92 = .ok (.aload_n 0, 1) := by decide +kernel
theorem dX5_readCard_93 : decode cX5_readCard 93 = .ok (.getfield 12, 3) := by decide +kernel
theorem dX5_readCard_96 : decode cX5_readCard 96 = .ok (.iload_n 1, 1) := by decide +kernel
theorem dX5_readCard_97 : decode cX5_readCard 97 = .ok (.iload_n 3, 1) := by decide +kernel
theorem dX5_readCard_98 : decode cX5_readCard 98 = .ok (.invokevirtual 95, 3) := by decide +kernel
theorem dX5_readCard_101 : decode cX5_readCard 101 = .ok (.return_, 1) := by decide +kernel
theorem dX5_readPerson_0 : decode cX5_readPerson 0 = .ok (.aload_n 0, 1) := by decide +kernel
theorem dX5_readPerson_1 : decode cX5_readPerson 1 = .ok (.getfield 12, 3) := by decide +kernel
theorem dX5_readPerson_4 : decode cX5_readPerson 4 = .ok (.getfield 98, 3) := by decide +kernel
theorem dX5_readPerson_7 : decode cX5_readPerson 7 = .ok (.bipush 6, 2) := by decide +kernel
theorem dX5_readPerson_9 : decode cX5_readPerson 9 = .ok (.if_icmp .lt 12, 3) := by decide +kernel
theorem dX5_readPerson_12 : decode cX5_readPerson 12 = .ok (.aload_n 0, 1) := by decide +kernel
theorem dX5_readPerson_13 : decode cX5_readPerson 13 = .ok (.iconst 3, 1) := by decide +kernel
theorem dX5_readPerson_14 : decode cX5_readPerson 14 = .ok (.aload_n 0, 1) := by decide +kernel
theorem dX5_readPerson_15 : decode cX5_readPerson 15 = .ok (.getfield 29, 3) := by decide +kernel
theorem dX5_readPerson_18 : decode cX5_readPerson 18 = .ok (.invokevirtual 81, 3) := by decide +kernel
theorem dX5_readPerson_21 : decode cX5_readPerson 21 = .ok (.aload_n 0, 1) := by decide +kernel
theorem dX5_readPerson_22 : decode cX5_readPerson 22 = .ok (.bipush 112, 2) := by decide +kernel
theorem dX5_readPerson_24 : decode cX5_readPerson 24 = .ok (.invokevirtual 54, 3) := by decide +kernel
theorem dX5_readPerson_27 : decode cX5_readPerson 27 = .ok (.aload_n 0, 1) := by decide +kernel
theorem dX5_readPerson_28 : decode cX5_readPerson 28 = .ok (.bipush 59, 2) := by decide +kernel
theorem dX5_readPerson_30 : decode cX5_readPerson 30 = .ok (.invokevirtual 54, 3) := by decide +kernel
theorem dX5_readPerson_33 : decode cX5_readPerson 33 = .ok (.aload_n 0, 1) := by decide +kernel
theorem dX5_readPerson_34 : decode cX5_readPerson 34 = .ok (.getfield 32, 3) := by decide +kernel
theorem dX5_readPerson_37 : decode cX5_readPerson 37 = .ok (.ifCond .ne 16, 3) := by decide +kernel
theorem dX5_readPerson_40 : decode cX5_readPerson 40 = .ok (.aload_n 0, 1) := by decide +kernel
theorem dX5_readPerson_41 : decode cX5_readPerson 41 = .ok (.getfield 12, 3) := by decide +kernel
theorem dX5_readPerson_44 : decode cX5_readPerson 44 = .ok (.dup, 1) := by decide +kernel
theorem dX5_readPerson_45 : decode cX5_readPerson 45 = .ok (.getfield 98, 3) := by decide +kernel
theorem dX5_readPerson_48 : decode cX5_readPerson 48 = .ok (.iconst 1, 1) := by decide +kernel
theorem dX5_readPerson_49 : decode cX5_readPerson 49 = .ok (.iadd, 1) := by decide +kernel
theorem dX5_readPerson_50 : decode cX5_readPerson 50 = .ok (.putfield 98, 3) := by decide +kernel
theorem dX5_readPerson_53 : decode cX5_readPerson 53 = .ok (.return_, 1) := by decide +kernel
theorem dX5_fail_0 : decode cX5_fail 0 = .ok (.aload_n 0, 1) := by decide +kernel
theorem dX5_fail_1 : decode cX5_fail 1 = .ok (.getfield 32, 3) := by decide +kernel
theorem dX5_fail_4 : decode cX5_fail 4 = .ok (.ifCond .ne 13, 3) := by decide +kernel
theorem dX5_fail_7 : decode cX5_fail 7 = .ok (.aload_n 0, 1) := by decide +kernel
theorem dX5_fail_8 : decode cX5_fail 8 = .ok (.iload_n 1, 1) := by decide +kernel
theorem dX5_fail_9 : decode cX5_fail 9 = .ok (.putfield 32, 3) := by decide +kernel
theorem dX5_fail_12 : decode cX5_fail 12 = .ok (.aload_n 0, 1) := by decide +kernel
theorem dX5_fail_13 : decode cX5_fail 13 = .ok (.iload_n 2, 1) := by decide +kernel
theorem dX5_fail_14 : decode cX5_fail 14 = .ok (.putfield 18, 3) := by decide +kernel
theorem dX5_fail_17 : decode cX5_fail 17 = .ok (.return_, 1) := by decide +kernel
theorem dX5_letterAt_0 : decode cX5_letterAt 0 = .ok (.iload_n 1, 1) := by decide +kernel
theorem dX5_letterAt_1 : decode cX5_letterAt 1 = .ok (.ifCond .lt 18, 3) := by decide +kernel
theorem dX5_letterAt_4 : decode cX5_letterAt 4 = .ok (.iload_n 1, 1) := by decide +kernel
theorem dX5_letterAt_5 : decode cX5_letterAt 5 = .ok (.aload_n 0, 1) := by decide +kernel
theorem dX5_letterAt_6 : decode cX5_letterAt 6 = .ok (.getfield 26, 3) := by decide +kernel
theorem dX5_letterAt_9 : decode cX5_letterAt 9 = .ok (.if_icmp .ge 10, 3) := by decide +kernel
theorem dX5_letterAt_12 : decode cX5_letterAt 12 = .ok (.iload_n 1, 1) := by decide +kernel
theorem dX5_letterAt_13 : decode cX5_letterAt 13 = .ok (.sipush 240, 3) := by decide +kernel
theorem dX5_letterAt_16 : decode cX5_letterAt 16 = .ok (.if_icmp .lt 7, 3) := by decide +kernel
theorem dX5_letterAt_19 : decode cX5_letterAt 19 = .ok (.iconst (-1), 1) := by decide +kernel
theorem dX5_letterAt_20 : decode cX5_letterAt 20 = .ok (.goto 9, 3) := by decide +kernel
theorem dX5_letterAt_23 : decode cX5_letterAt 23 = .ok (.aload_n 0, 1) := by decide +kernel
theorem dX5_letterAt_24 : decode cX5_letterAt 24 = .ok (.getfield 22, 3) := by decide +kernel
theorem dX5_letterAt_27 : decode cX5_letterAt 27 = .ok (.iload_n 1, 1) := by decide +kernel
theorem dX5_letterAt_28 : decode cX5_letterAt 28 = .ok (.iaload, 1) := by decide +kernel
theorem dX5_letterAt_29 : decode cX5_letterAt 29 = .ok (.ireturn, 1) := by decide +kernel
theorem dX5_skipBlanks_0 : decode cX5_skipBlanks 0 = .ok (.aload_n 0, 1) := by decide +kernel
theorem dX5_skipBlanks_1 : decode cX5_skipBlanks 1 = .ok (.getfield 29, 3) := by decide +kernel
theorem dX5_skipBlanks_4 : decode cX5_skipBlanks 4 = .ok (.aload_n 0, 1) := by decide +kernel
theorem dX5_skipBlanks_5 : decode cX5_skipBlanks 5 = .ok (.getfield 26, 3) := by decide +kernel
theorem dX5_skipBlanks_8 : decode cX5_skipBlanks 8 = .ok (.if_icmp .ge 29, 3) := by decide +kernel
theorem dX5_skipBlanks_11 : decode cX5_skipBlanks 11 = .ok (.aload_n 0, 1) := by decide +kernel
theorem dX5_skipBlanks_12 : decode cX5_skipBlanks 12 = .ok (.aload_n 0, 1) := by decide +kernel
theorem dX5_skipBlanks_13 : decode cX5_skipBlanks 13 = .ok (.getfield 29, 3) := by decide +kernel
theorem dX5_skipBlanks_16 : decode cX5_skipBlanks 16 = .ok (.invokevirtual 71, 3) := by decide +kernel
theorem dX5_skipBlanks_19 : decode cX5_skipBlanks 19 = .ok (.bipush 32, 2) := by decide +kernel
theorem dX5_skipBlanks_21 : decode cX5_skipBlanks 21 = .ok (.if_icmp .ne 16, 3) := by decide +kernel
theorem dX5_skipBlanks_24 : decode cX5_skipBlanks 24 = .ok (.aload_n 0, 1) := by decide +kernel
theorem dX5_skipBlanks_25 : decode cX5_skipBlanks 25 = .ok (.dup, 1) := by decide +kernel
theorem dX5_skipBlanks_26 : decode cX5_skipBlanks 26 = .ok (.getfield 29, 3) := by decide +kernel
theorem dX5_skipBlanks_29 : decode cX5_skipBlanks 29 = .ok (.iconst 1, 1) := by decide +kernel
theorem dX5_skipBlanks_30 : decode cX5_skipBlanks 30 = .ok (.iadd, 1) := by decide +kernel
theorem dX5_skipBlanks_31 : decode cX5_skipBlanks 31 = .ok (.putfield 29, 3) := by decide +kernel
theorem dX5_skipBlanks_34 : decode cX5_skipBlanks 34 = .ok (.goto (-34), 3) := by decide +kernel
theorem dX5_skipBlanks_37 : decode cX5_skipBlanks 37 = .ok (.return_, 1) := by decide +kernel
theorem dX5_takeWord_0 : decode cX5_takeWord 0 = .ok (.aload_n 0, 1) := by decide +kernel
theorem dX5_takeWord_1 : decode cX5_takeWord 1 = .ok (.invokevirtual 38, 3) := by decide +kernel
theorem dX5_takeWord_4 : decode cX5_takeWord 4 = .ok (.aload_n 0, 1) := by decide +kernel
theorem dX5_takeWord_5 : decode cX5_takeWord 5 = .ok (.aload_n 0, 1) := by decide +kernel
theorem dX5_takeWord_6 : decode cX5_takeWord 6 = .ok (.getfield 29, 3) := by decide +kernel
theorem dX5_takeWord_9 : decode cX5_takeWord 9 = .ok (.invokevirtual 71, 3) := by decide +kernel
theorem dX5_takeWord_12 : decode cX5_takeWord 12 = .ok (.iload_n 1, 1) := by decide +kernel
theorem dX5_takeWord_13 : decode cX5_takeWord 13 = .ok (.if_icmp .ne 16, 3) := by decide +kernel
theorem dX5_takeWord_16 : decode cX5_takeWord 16 = .ok (.aload_n 0, 1) := by decide +kernel
theorem dX5_takeWord_17 : decode cX5_takeWord 17 = .ok (.dup, 1) := by decide +kernel
theorem dX5_takeWord_18 : decode cX5_takeWord 18 = .ok (.getfield 29, 3) := by decide +kernel
theorem dX5_takeWord_21 : decode cX5_takeWord 21 = .ok (.iconst 1, 1) := by decide +kernel
theorem dX5_takeWord_22 : decode cX5_takeWord 22 = .ok (.iadd, 1) := by decide +kernel
theorem dX5_takeWord_23 : decode cX5_takeWord 23 = .ok (.putfield 29, 3) := by decide +kernel
theorem dX5_takeWord_26 : decode cX5_takeWord 26 = .ok (.goto 12, 3) := by decide +kernel
theorem dX5_takeWord_29 : decode cX5_takeWord 29 = .ok (.aload_n 0, 1) := by decide +kernel
theorem dX5_takeWord_30 : decode cX5_takeWord 30 = .ok (.iconst 1, 1) := by decide +kernel
theorem dX5_takeWord_31 : decode cX5_takeWord 31 = .ok (.aload_n 0, 1) := by decide +kernel
theorem dX5_takeWord_32 : decode cX5_takeWord 32 = .ok (.getfield 29, 3) := by decide +kernel
theorem dX5_takeWord_35 : decode cX5_takeWord 35 = .ok (.invokevirtual 81, 3) := by decide +kernel
theorem dX5_takeWord_38 : decode cX5_takeWord 38 = .ok (.return_, 1) := by decide +kernel
theorem dX5_isFigure_0 : decode cX5_isFigure 0 = .ok (.iload_n 1, 1) := by decide +kernel
theorem dX5_isFigure_1 : decode cX5_isFigure 1 = .ok (.bipush 48, 2) := by decide +kernel
theorem dX5_isFigure_3 : decode cX5_isFigure 3 = .ok (.if_icmp .lt 13, 3) := by decide +kernel
theorem dX5_isFigure_6 : decode cX5_isFigure 6 = .ok (.iload_n 1, 1) := by decide +kernel
theorem dX5_isFigure_7 : decode cX5_isFigure 7 = .ok (.bipush 57, 2) := by decide +kernel
theorem dX5_isFigure_9 : decode cX5_isFigure 9 = .ok (.if_icmp .gt 7, 3) := by decide +kernel
theorem dX5_isFigure_12 : decode cX5_isFigure 12 = .ok (.iconst 1, 1) := by decide +kernel
theorem dX5_isFigure_13 : decode cX5_isFigure 13 = .ok (.goto 4, 3) := by decide +kernel
theorem dX5_isFigure_16 : decode cX5_isFigure 16 = .ok (.iconst 0, 1) := by decide +kernel
theorem dX5_isFigure_17 : decode cX5_isFigure 17 = .ok (.ireturn, 1) := by decide +kernel
theorem dX5_number_0 : decode cX5_number 0 = .ok (.aload_n 0, 1) := by decide +kernel
theorem dX5_number_1 : decode cX5_number 1 = .ok (.invokevirtual 38, 3) := by decide +kernel
theorem dX5_number_4 : decode cX5_number 4 = .ok (.aload_n 0, 1) := by decide +kernel
theorem dX5_number_5 : decode cX5_number 5 = .ok (.getfield 29, 3) := by decide +kernel
theorem dX5_number_8 : decode cX5_number 8 = .ok (.istore_n 3, 1) := by decide +kernel
theorem dX5_number_9 : decode cX5_number 9 = .ok (.iconst 0, 1) := by decide +kernel
theorem dX5_number_10 : decode cX5_number 10 = .ok (.istore 4, 2) := by decide +kernel
theorem dX5_number_12 : decode cX5_number 12 = .ok (.aload_n 0, 1) := by decide +kernel
theorem dX5_number_13 : decode cX5_number 13 = .ok (.getfield 29, 3) := by decide +kernel
theorem dX5_number_16 : decode cX5_number 16 = .ok (.aload_n 0, 1) := by decide +kernel
theorem dX5_number_17 : decode cX5_number 17 = .ok (.getfield 26, 3) := by decide +kernel
theorem dX5_number_20 : decode cX5_number 20 = .ok (.if_icmp .ge 60, 3) := by decide +kernel
theorem dX5_number_23 : decode cX5_number 23 = .ok (.aload_n 0, 1) := by decide +kernel
theorem dX5_number_24 : decode cX5_number 24 = .ok (.aload_n 0, 1) := by decide +kernel
theorem dX5_number_25 : decode cX5_number 25 = .ok (.aload_n 0, 1) := by decide +kernel
theorem dX5_number_26 : decode cX5_number 26 = .ok (.getfield 29, 3) := by decide +kernel
theorem dX5_number_29 : decode cX5_number 29 = .ok (.invokevirtual 71, 3) := by decide +kernel
theorem dX5_number_32 : decode cX5_number 32 = .ok (.invokevirtual 101, 3) := by decide +kernel
theorem dX5_number_35 : decode cX5_number 35 = .ok (.ifCond .eq 45, 3) := by decide +kernel
theorem dX5_number_38 : decode cX5_number 38 = .ok (.aload_n 0, 1) := by decide +kernel
theorem dX5_number_39 : decode cX5_number 39 = .ok (.getfield 29, 3) := by decide +kernel
theorem dX5_number_42 : decode cX5_number 42 = .ok (.iload_n 3, 1) := by decide +kernel
theorem dX5_number_43 : decode cX5_number 43 = .ok (.isub, 1) := by decide +kernel
theorem dX5_number_44 : decode cX5_number 44 = .ok (.iconst 3, 1) := by decide +kernel
theorem dX5_number_45 : decode cX5_number 45 = .ok (.if_icmp .ge 22, 3) := by decide +kernel
theorem dX5_number_48 : decode cX5_number 48 = .ok (.bipush 10, 2) := by decide +kernel
theorem dX5_number_50 : decode cX5_number 50 = .ok (.iload 4, 2) := by decide +kernel
theorem dX5_number_52 : decode cX5_number 52 = .ok (.imul, 1) := by decide +kernel
theorem dX5_number_53 : decode cX5_number 53 = .ok (.aload_n 0, 1) := by decide +kernel
theorem dX5_number_54 : decode cX5_number 54 = .ok (.aload_n 0, 1) := by decide +kernel
theorem dX5_number_55 : decode cX5_number 55 = .ok (.getfield 29, 3) := by decide +kernel
theorem dX5_number_58 : decode cX5_number 58 = .ok (.invokevirtual 71, 3) := by decide +kernel
theorem dX5_number_61 : decode cX5_number 61 = .ok (.iadd, 1) := by decide +kernel
theorem dX5_number_62 : decode cX5_number 62 = .ok (.bipush 48, 2) := by decide +kernel
theorem dX5_number_64 : decode cX5_number 64 = .ok (.isub, 1) := by decide +kernel
theorem dX5_number_65 : decode cX5_number 65 = .ok (.istore 4, 2) := by decide +kernel
theorem dX5_number_67 : decode cX5_number 67 = .ok (.aload_n 0, 1) := by decide +kernel
theorem dX5_number_68 : decode cX5_number 68 = .ok (.dup, 1) := by decide +kernel
theorem dX5_number_69 : decode cX5_number 69 = .ok (.getfield 29, 3) := by decide +kernel
theorem dX5_number_72 : decode cX5_number 72 = .ok (.iconst 1, 1) := by decide +kernel
theorem dX5_number_73 : decode cX5_number 73 = .ok (.iadd, 1) := by decide +kernel
theorem dX5_number_74 : decode cX5_number 74 = .ok (.putfield 29, 3) := by decide +kernel
theorem dX5_number_77 : decode cX5_number 77 = .ok (.goto (-65), 3) := by decide +kernel
theorem dX5_number_80 : decode cX5_number 80 = .ok (.aload_n 0, 1) := by decide +kernel
theorem dX5_number_81 : decode cX5_number 81 = .ok (.getfield 29, 3) := by decide +kernel
theorem dX5_number_84 : decode cX5_number 84 = .ok (.iload_n 3, 1) := by decide +kernel
theorem dX5_number_85 : decode cX5_number 85 = .ok (.if_icmp .ne 12, 3) := by decide +kernel
theorem dX5_number_88 : decode cX5_number 88 = .ok (.aload_n 0, 1) := by decide +kernel
theorem dX5_number_89 : decode cX5_number 89 = .ok (.iconst 1, 1) := by decide +kernel
theorem dX5_number_90 : decode cX5_number 90 = .ok (.iload_n 3, 1) := by decide +kernel
theorem dX5_number_91 : decode cX5_number 91 = .ok (.invokevirtual 81, 3) := by decide +kernel
theorem dX5_number_94 : decode cX5_number 94 = .ok (.goto 31, 3) := by decide +kernel
theorem dX5_number_97 : decode cX5_number 97 = .ok (.aload_n 0, 1) := by decide +kernel
theorem dX5_number_98 : decode cX5_number 98 = .ok (.getfield 29, 3) := by decide +kernel
theorem dX5_number_101 : decode cX5_number 101 = .ok (.iload_n 3, 1) := by decide +kernel
theorem dX5_number_102 : decode cX5_number 102 = .ok (.isub, 1) := by decide +kernel
theorem dX5_number_103 : decode cX5_number 103 = .ok (.iconst 3, 1) := by decide +kernel
theorem dX5_number_104 : decode cX5_number 104 = .ok (.if_icmp .gt 15, 3) := by decide +kernel
theorem dX5_number_107 : decode cX5_number 107 = .ok (.iload 4, 2) := by decide +kernel
theorem dX5_number_109 : decode cX5_number 109 = .ok (.iload_n 1, 1) := by decide +kernel
theorem dX5_number_110 : decode cX5_number 110 = .ok (.if_icmp .lt 9, 3) := by decide +kernel
theorem dX5_number_113 : decode cX5_number 113 = .ok (.iload 4, 2) := by decide +kernel
theorem dX5_number_115 : decode cX5_number 115 = .ok (.iload_n 2, 1) := by decide +kernel
theorem dX5_number_116 : decode cX5_number 116 = .ok (.if_icmp .le 9, 3) := by decide +kernel
theorem dX5_number_119 : decode cX5_number 119 = .ok (.aload_n 0, 1) := by decide +kernel
theorem dX5_number_120 : decode cX5_number 120 = .ok (.iconst 2, 1) := by decide +kernel
theorem dX5_number_121 : decode cX5_number 121 = .ok (.iload_n 3, 1) := by decide +kernel
theorem dX5_number_122 : decode cX5_number 122 = .ok (.invokevirtual 81, 3) := by decide +kernel
theorem dX5_number_125 : decode cX5_number 125 = .ok (.iload 4, 2) := by decide +kernel
theorem dX5_number_127 : decode cX5_number 127 = .ok (.ireturn, 1) := by decide +kernel
theorem dX6_init_0 : decode cX6_init 0 = .ok (.aload_n 0, 1) := by decide +kernel
theorem dX6_init_1 : decode cX6_init 1 = .ok (.invokespecial 3, 3) := by decide +kernel
theorem dX6_init_4 : decode cX6_init 4 = .ok (.aload_n 0, 1) := by decide +kernel
theorem dX6_init_5 : decode cX6_init 5 = .ok (.iconst (-1), 1) := by decide +kernel
theorem dX6_init_6 : decode cX6_init 6 = .ok (.putfield 9, 3) := by decide +kernel
theorem dX6_init_9 : decode cX6_init 9 = .ok (.aload_n 0, 1) := by decide +kernel
theorem dX6_init_10 : decode cX6_init 10 = .ok (.bipush 12, 2) := by decide +kernel
theorem dX6_init_12 : decode cX6_init 12 = .ok (.newarray .int, 2) := by decide +kernel
theorem dX6_init_14 : decode cX6_init 14 = .ok (.putfield 15, 3) := by decide +kernel
theorem dX6_init_17 : decode cX6_init 17 = .ok (.aload_n 0, 1) := by decide +kernel
theorem dX6_init_18 : decode cX6_init 18 = .ok (.bipush 12, 2) := by decide +kernel
theorem dX6_init_20 : decode cX6_init 20 = .ok (.newarray .int, 2) := by decide +kernel
theorem dX6_init_22 : decode cX6_init 22 = .ok (.putfield 19, 3) := by decide +kernel
theorem dX6_init_25 : decode cX6_init 25 = .ok (.aload_n 0, 1) := by decide +kernel
theorem dX6_init_26 : decode cX6_init 26 = .ok (.bipush 12, 2) := by decide +kernel
theorem dX6_init_28 : decode cX6_init 28 = .ok (.newarray .int, 2) := by decide +kernel
theorem dX6_init_30 : decode cX6_init 30 = .ok (.putfield 22, 3) := by decide +kernel
theorem dX6_init_33 : decode cX6_init 33 = .ok (.return_, 1) := by decide +kernel
theorem dX6_clear_0 : decode cX6_clear 0 = .ok (.aload_n 0, 1) := by decide +kernel
theorem dX6_clear_1 : decode cX6_clear 1 = .ok (.iconst 0, 1) := by decide +kernel
theorem dX6_clear_2 : decode cX6_clear 2 = .ok (.putfield 25, 3) := by decide +kernel
theorem dX6_clear_5 : decode cX6_clear 5 = .ok (.aload_n 0, 1) := by decide +kernel
theorem dX6_clear_6 : decode cX6_clear 6 = .ok (.iconst (-1), 1) := by decide +kernel
theorem dX6_clear_7 : decode cX6_clear 7 = .ok (.putfield 9, 3) := by decide +kernel
theorem dX6_clear_10 : decode cX6_clear 10 = .ok (.aload_n 0, 1) := by decide +kernel
theorem dX6_clear_11 : decode cX6_clear 11 = .ok (.iconst 0, 1) := by decide +kernel
theorem dX6_clear_12 : decode cX6_clear 12 = .ok (.putfield 29, 3) := by decide +kernel
theorem dX6_clear_15 : decode cX6_clear 15 = .ok (.aload_n 0, 1) := by decide +kernel
theorem dX6_clear_16 : decode cX6_clear 16 = .ok (.iconst 0, 1) := by decide +kernel
theorem dX6_clear_17 : decode cX6_clear 17 = .ok (.putfield 32, 3) := by decide +kernel
theorem dX6_clear_20 : decode cX6_clear 20 = .ok (.aload_n 0, 1) := by decide +kernel
theorem dX6_clear_21 : decode cX6_clear 21 = .ok (.iconst 0, 1) := by decide +kernel
theorem dX6_clear_22 : decode cX6_clear 22 = .ok (.putfield 35, 3) := by decide +kernel
theorem dX6_clear_25 : decode cX6_clear 25 = .ok (.aload_n 0, 1) := by decide +kernel
theorem dX6_clear_26 : decode cX6_clear 26 = .ok (.iconst 0, 1) := by decide +kernel
theorem dX6_clear_27 : decode cX6_clear 27 = .ok (.putfield 38, 3) := by decide +kernel
theorem dX6_clear_30 : decode cX6_clear 30 = .ok (.aload_n 0, 1) := by decide +kernel
theorem dX6_clear_31 : decode cX6_clear 31 = .ok (.lconst 0, 1) := by decide +kernel
theorem dX6_clear_32 : decode cX6_clear 32 = .ok (.putfield 41, 3) := by decide +kernel
theorem dX6_clear_35 : decode cX6_clear 35 = .ok (.return_, 1) := by decide +kernel
theorem dX6_become_0 : decode cX6_become 0 = .ok (.aload_n 0, 1) := by decide +kernel
theorem dX6_become_1 : decode cX6_become 1 = .ok (.aload_n 1, 1) := by decide +kernel
theorem dX6_become_2 : decode cX6_become 2 = .ok (.getfield 25, 3) := by decide +kernel
theorem dX6_become_5 : decode cX6_become 5 = .ok (.putfield 25, 3) := by decide +kernel
theorem dX6_become_8 : decode cX6_become 8 = .ok (.aload_n 0, 1) := by decide +kernel
theorem dX6_become_9 : decode cX6_become 9 = .ok (.aload_n 1, 1) := by decide +kernel
theorem dX6_become_10 : decode cX6_become 10 = .ok (.getfield 9, 3) := by decide +kernel
theorem dX6_become_13 : decode cX6_become 13 = .ok (.putfield 9, 3) := by decide +kernel
theorem dX6_become_16 : decode cX6_become 16 = .ok (.aload_n 0, 1) := by decide +kernel
theorem dX6_become_17 : decode cX6_become 17 = .ok (.aload_n 1, 1) := by decide +kernel
theorem dX6_become_18 : decode cX6_become 18 = .ok (.getfield 29, 3) := by decide +kernel
theorem dX6_become_21 : decode cX6_become 21 = .ok (.putfield 29, 3) := by decide +kernel
theorem dX6_become_24 : decode cX6_become 24 = .ok (.aload_n 0, 1) := by decide +kernel
theorem dX6_become_25 : decode cX6_become 25 = .ok (.aload_n 1, 1) := by decide +kernel
theorem dX6_become_26 : decode cX6_become 26 = .ok (.getfield 32, 3) := by decide +kernel
theorem dX6_become_29 : decode cX6_become 29 = .ok (.putfield 32, 3) := by decide +kernel
theorem dX6_become_32 : decode cX6_become 32 = .ok (.aload_n 0, 1) := by decide +kernel
theorem dX6_become_33 : decode cX6_become 33 = .ok (.aload_n 1, 1) := by decide +kernel
theorem dX6_become_34 : decode cX6_become 34 = .ok (.getfield 35, 3) := by decide +kernel
theorem dX6_become_37 : decode cX6_become 37 = .ok (.putfield 35, 3) := by decide +kernel
theorem dX6_become_40 : decode cX6_become 40 = .ok (.aload_n 0, 1) := by decide +kernel
theorem dX6_become_41 : decode cX6_become 41 = .ok (.aload_n 1, 1) := by decide +kernel
theorem dX6_become_42 : decode cX6_become 42 = .ok (.getfield 38, 3) := by decide +kernel
theorem dX6_become_45 : decode cX6_become 45 = .ok (.putfield 38, 3) := by decide +kernel
theorem dX6_become_48 : decode cX6_become 48 = .ok (.aload_n 0, 1) := by decide +kernel
theorem dX6_become_49 : decode cX6_become 49 = .ok (.aload_n 1, 1) := by decide +kernel
theorem dX6_become_50 : decode cX6_become 50 = .ok (.getfield 41, 3) := by decide +kernel
theorem dX6_become_53 : decode cX6_become 53 = .ok (.putfield 41, 3) := by decide +kernel
theorem dX6_become_56 : decode cX6_become 56 = .ok (.aload_n 1, 1) := by decide +kernel
theorem dX6_become_57 : decode cX6_become 57 = .ok (.getfield 15, 3) := by decide +kernel
theorem dX6_become_60 : decode cX6_become 60 = .ok (.iconst 0, 1) := by decide +kernel
theorem dX6_become_61 : decode cX6_become 61 = .ok (.aload_n 0, 1) := by decide +kernel
theorem dX6_become_62 : decode cX6_become 62 = .ok (.getfield 15, 3) := by decide +kernel
theorem dX6_become_65 : decode cX6_become 65 = .ok (.iconst 0, 1) := by decide +kernel
theorem dX6_become_66 : decode cX6_become 66 = .ok (.bipush 12, 2) := by decide +kernel
theorem dX6_become_68 : decode cX6_become 68 = .ok (.invokestatic 45, 3) := by decide +kernel
theorem dX6_become_71 : decode cX6_become 71 = .ok (.aload_n 1, 1) := by decide +kernel
theorem dX6_become_72 : decode cX6_become 72 = .ok (.getfield 19, 3) := by decide +kernel
theorem dX6_become_75 : decode cX6_become 75 = .ok (.iconst 0, 1) := by decide +kernel
theorem dX6_become_76 : decode cX6_become 76 = .ok (.aload_n 0, 1) := by decide +kernel
theorem dX6_become_77 : decode cX6_become 77 = .ok (.getfield 19, 3) := by decide +kernel
theorem dX6_become_80 : decode cX6_become 80 = .ok (.iconst 0, 1) := by decide +kernel
theorem dX6_become_81 : decode cX6_become 81 = .ok (.bipush 12, 2) := by decide +kernel
theorem dX6_become_83 : decode cX6_become 83 = .ok (.invokestatic 45, 3) := by decide +kernel
theorem dX6_become_86 : decode cX6_become 86 = .ok (.iconst 0, 1) := by decide +kernel
theorem dX6_become_87 : decode cX6_become 87 = .ok (.istore_n 2, 1) := by decide +kernel
theorem dX6_become_88 : decode cX6_become 88 = .ok (.iload_n 2, 1) := by decide +kernel
theorem dX6_become_89 : decode cX6_become 89 = .ok (.bipush 12, 2) := by decide +kernel
theorem dX6_become_91 : decode cX6_become 91 = .ok (.if_icmp .ge 20, 3) := by decide +kernel
theorem dX6_become_94 : decode cX6_become 94 = .ok (.aload_n 0, 1) := by decide +kernel
theorem dX6_become_95 : decode cX6_become 95 = .ok (.getfield 22, 3) := by decide +kernel
theorem dX6_become_98 : decode cX6_become 98 = .ok (.iload_n 2, 1) := by decide +kernel
theorem dX6_become_99 : decode cX6_become 99 = .ok (.aload_n 0, 1) := by decide +kernel
theorem dX6_become_100 : decode cX6_become 100 = .ok (.iload_n 2, 1) := by decide +kernel
theorem dX6_become_101 : decode cX6_become 101 = .ok (.invokevirtual 51, 3) := by decide +kernel
theorem dX6_become_104 : decode cX6_become 104 = .ok (.iastore, 1) := by decide +kernel
theorem dX6_become_105 : decode cX6_become 105 = .ok (.iinc 2 1, 3) := by decide +kernel
theorem dX6_become_108 : decode cX6_become 108 = .ok (.goto (-20), 3) := by decide +kernel
theorem dX6_become_111 : decode cX6_become 111 = .ok (.return_, 1) := by decide +kernel
theorem dX6_allBeatenBy_0 : decode cX6_allBeatenBy 0 = .ok (.iconst 0, 1) := by decide +kernel
theorem dX6_allBeatenBy_1 : decode cX6_allBeatenBy 1 = .ok (.istore_n 2, 1) := by decide +kernel
theorem dX6_allBeatenBy_2 : decode cX6_allBeatenBy 2 = .ok (.iconst 0, 1) := by decide +kernel
theorem dX6_allBeatenBy_3 : decode cX6_allBeatenBy 3 = .ok (.istore_n 3, 1) := by decide +kernel
theorem dX6_allBeatenBy_4 : decode cX6_allBeatenBy 4 = .ok (.iload_n 1, 1) := by decide +kernel
theorem dX6_allBeatenBy_5 : decode cX6_allBeatenBy 5 = .ok (.aload_n 0, 1) := by decide +kernel
theorem dX6_allBeatenBy_6 : decode cX6_allBeatenBy 6 = .ok (.getfield 35, 3) := by decide +kernel
theorem dX6_allBeatenBy_9 : decode cX6_allBeatenBy 9 = .ok (.if_icmp .ge 40, 3) := by decide +kernel
theorem dX6_allBeatenBy_12 : decode cX6_allBeatenBy 12 = .ok (.iload_n 3, 1) := by decide +kernel
theorem dX6_allBeatenBy_13 : decode cX6_allBeatenBy 13 = .ok (.aload_n 0, 1) := by decide +kernel
theorem dX6_allBeatenBy_14 : decode cX6_allBeatenBy 14 = .ok (.getfield 35, 3) := by decide +kernel
theorem dX6_allBeatenBy_17 : decode cX6_allBeatenBy 17 = .ok (.if_icmp .ge 32, 3) := by decide +kernel
theorem dX6_allBeatenBy_20 : decode cX6_allBeatenBy 20 = .ok (.aload_n 0, 1) := by decide +kernel
theorem dX6_allBeatenBy_21 : decode cX6_allBeatenBy 21 = .ok (.iload_n 1, 1) := by decide +kernel
theorem dX6_allBeatenBy_22 : decode cX6_allBeatenBy 22 = .ok (.iload_n 3, 1) := by decide +kernel
theorem dX6_allBeatenBy_23 : decode cX6_allBeatenBy 23 = .ok (.aload_n 0, 1) := by decide +kernel
theorem dX6_allBeatenBy_24 : decode cX6_allBeatenBy 24 = .ok (.getfield 9, 3) := by decide +kernel
theorem dX6_allBeatenBy_27 : decode cX6_allBeatenBy 27 = .ok (.aload_n 0, 1) := by decide +kernel
theorem dX6_allBeatenBy_28 : decode cX6_allBeatenBy 28 = .ok (.getfield 29, 3) := by decide +kernel
theorem dX6_allBeatenBy_31 : decode cX6_allBeatenBy 31 = .ok (.invokevirtual 55, 3) := by decide +kernel
theorem dX6_allBeatenBy_34 : decode cX6_allBeatenBy 34 = .ok (.ifCond .ne 9, 3) := by decide +kernel
theorem dX6_allBeatenBy_37 : decode cX6_allBeatenBy 37 = .ok (.iload_n 2, 1) := by decide +kernel
theorem dX6_allBeatenBy_38 : decode cX6_allBeatenBy 38 = .ok (.iconst 1, 1) := by decide +kernel
theorem dX6_allBeatenBy_39 : decode cX6_allBeatenBy 39 = .ok (.iload_n 3, 1) := by decide +kernel
theorem dX6_allBeatenBy_40 : decode cX6_allBeatenBy 40 = .ok (.ishl, 1) := by decide +kernel
theorem dX6_allBeatenBy_41 : decode cX6_allBeatenBy 41 = .ok (.ior, 1) := by decide +kernel
theorem dX6_allBeatenBy_42 : decode cX6_allBeatenBy 42 = .ok (.istore_n 2, 1) := by decide +kernel
theorem dX6_allBeatenBy_43 : decode cX6_allBeatenBy 43 = .ok (.iinc 3 1, 3) := by decide +kernel
theorem dX6_allBeatenBy_46 : decode cX6_allBeatenBy 46 = .ok (.goto (-42), 3) := by decide +kernel
theorem dX6_allBeatenBy_49 : decode cX6_allBeatenBy 49 = .ok (.iload_n 2, 1) := by decide +kernel
theorem dX6_allBeatenBy_50 : decode cX6_allBeatenBy 50 = .ok (.ireturn, 1) := by decide +kernel
theorem dX6_oneOfAll_0 : decode cX6_oneOfAll 0 = .ok (.bipush 13, 2) := by decide +kernel
theorem dX6_oneOfAll_2 : decode cX6_oneOfAll 2 = .ok (.iload_n 1, 1) := by decide +kernel
theorem dX6_oneOfAll_3 : decode cX6_oneOfAll 3 = .ok (.imul, 1) := by decide +kernel
theorem dX6_oneOfAll_4 : decode cX6_oneOfAll 4 = .ok (.iload_n 0, 1) := by decide +kernel
theorem dX6_oneOfAll_5 : decode cX6_oneOfAll 5 = .ok (.iadd, 1) := by decide +kernel
theorem dX6_oneOfAll_6 : decode cX6_oneOfAll 6 = .ok (.iconst 1, 1) := by decide +kernel
theorem dX6_oneOfAll_7 : decode cX6_oneOfAll 7 = .ok (.isub, 1) := by decide +kernel
theorem dX6_oneOfAll_8 : decode cX6_oneOfAll 8 = .ok (.ireturn, 1) := by decide +kernel
theorem dX6_hasTold_0 : decode cX6_hasTold 0 = .ok (.aload_n 0, 1) := by decide +kernel
theorem dX6_hasTold_1 : decode cX6_hasTold 1 = .ok (.getfield 41, 3) := by decide +kernel
theorem dX6_hasTold_4 : decode cX6_hasTold 4 = .ok (.iload_n 1, 1) := by decide +kernel
theorem dX6_hasTold_5 : decode cX6_hasTold 5 = .ok (.lshr, 1) := by decide +kernel
theorem dX6_hasTold_6 : decode cX6_hasTold 6 = .ok (.lconst 1, 1) := by decide +kernel
theorem dX6_hasTold_7 : decode cX6_hasTold 7 = .ok (.land, 1) := by decide +kernel
theorem dX6_hasTold_8 : decode cX6_hasTold 8 = .ok (.lconst 1, 1) := by decide +kernel
theorem dX6_hasTold_9 : decode cX6_hasTold 9 = .ok (.lcmp, 1) := by decide +kernel
theorem dX6_hasTold_10 : decode cX6_hasTold 10 = .ok (.ifCond .ne 7, 3) := by decide +kernel
theorem dX6_hasTold_13 : decode cX6_hasTold 13 = .ok (.iconst 1, 1) := by decide +kernel
theorem dX6_hasTold_14 : decode cX6_hasTold 14 = .ok (.goto 4, 3) := by decide +kernel
theorem dX6_hasTold_17 : decode cX6_hasTold 17 = .ok (.iconst 0, 1) := by decide +kernel
theorem dX6_hasTold_18 : decode cX6_hasTold 18 = .ok (.ireturn, 1) := by decide +kernel
theorem dX6_addCard_0 : decode cX6_addCard 0 = .ok (.aload_n 0, 1) := by decide +kernel
theorem dX6_addCard_1 : decode cX6_addCard 1 = .ok (.getfield 35, 3) := by decide +kernel
theorem dX6_addCard_4 : decode cX6_addCard 4 = .ok (.ifCond .lt 58, 3) := by decide +kernel
theorem dX6_addCard_7 : decode cX6_addCard 7 = .ok (.aload_n 0, 1) := by decide +kernel
theorem dX6_addCard_8 : decode cX6_addCard 8 = .ok (.getfield 35, 3) := by decide +kernel
theorem dX6_addCard_11 : decode cX6_addCard 11 = .ok (.bipush 12, 2) := by decide +kernel
theorem dX6_addCard_13 : decode cX6_addCard 13 = .ok (.if_icmp .ge 49, 3) := by decide +kernel
theorem dX6_addCard_16 : decode cX6_addCard 16 = .ok (.aload_n 0, 1) := by decide +kernel
theorem dX6_addCard_17 : decode cX6_addCard 17 = .ok (.getfield 15, 3) := by decide +kernel
theorem dX6_addCard_20 : decode cX6_addCard 20 = .ok (.aload_n 0, 1) := by decide +kernel
theorem dX6_addCard_21 : decode cX6_addCard 21 = .ok (.getfield 35, 3) := by decide +kernel
theorem dX6_addCard_24 : decode cX6_addCard 24 = .ok (.iload_n 1, 1) := by decide +kernel
theorem dX6_addCard_25 : decode cX6_addCard 25 = .ok (.iastore, 1) := by decide +kernel
theorem dX6_addCard_26 : decode cX6_addCard 26 = .ok (.aload_n 0, 1) := by decide +kernel
theorem dX6_addCard_27 : decode cX6_addCard 27 = .ok (.getfield 19, 3) := by decide +kernel
theorem dX6_addCard_30 : decode cX6_addCard 30 = .ok (.aload_n 0, 1) := by decide +kernel
theorem dX6_addCard_31 : decode cX6_addCard 31 = .ok (.getfield 35, 3) := by decide +kernel
theorem dX6_addCard_34 : decode cX6_addCard 34 = .ok (.iload_n 2, 1) := by decide +kernel
theorem dX6_addCard_35 : decode cX6_addCard 35 = .ok (.iastore, 1) := by decide +kernel
theorem dX6_addCard_36 : decode cX6_addCard 36 = .ok (.aload_n 0, 1) := by decide +kernel
theorem dX6_addCard_37 : decode cX6_addCard 37 = .ok (.dup, 1) := by decide +kernel
theorem dX6_addCard_38 : decode cX6_addCard 38 = .ok (.getfield 35, 3) := by decide +kernel
theorem dX6_addCard_41 : decode cX6_addCard 41 = .ok (.iconst 1, 1) := by decide +kernel
theorem dX6_addCard_42 : decode cX6_addCard 42 = .ok (.iadd, 1) := by decide +kernel
theorem dX6_addCard_43 : decode cX6_addCard 43 = .ok (.putfield 35, 3) := by decide +kernel
theorem dX6_addCard_46 : decode cX6_addCard 46 = .ok (.aload_n 0, 1) := by decide +kernel
theorem dX6_addCard_47 : decode cX6_addCard 47 = .ok (.dup, 1) := by decide +kernel
theorem dX6_addCard_48 : decode cX6_addCard 48 = .ok (.getfield 41, 3) := by decide +kernel
theorem dX6_addCard_51 : decode cX6_addCard 51 = .ok (.lconst 1, 1) := by decide +kernel
theorem dX6_addCard_52 : decode cX6_addCard 52 = .ok (.iload_n 1, 1) := by decide +kernel
theorem dX6_addCard_53 : decode cX6_addCard 53 = .ok (.iload_n 2, 1) := by decide +kernel
theorem dX6_addCard_54 : decode cX6_addCard 54 = .ok (.invokestatic 59, 3) := by decide +kernel
theorem dX6_addCard_57 : decode cX6_addCard 57 = .ok (.lshl, 1) := by decide +kernel
theorem dX6_addCard_58 : decode cX6_addCard 58 = .ok (.lor, 1) := by decide +kernel
theorem dX6_addCard_59 : decode cX6_addCard 59 = .ok (.putfield 41, 3) := by decide +kernel
theorem dX6_addCard_62 : decode cX6_addCard 62 = .ok (.return_, 1) := by decide +kernel
theorem dX6_hasCard_0 : decode cX6_hasCard 0 = .ok (.iload_n 1, 1) := by decide +kernel
theorem dX6_hasCard_1 : decode cX6_hasCard 1 = .ok (.ifCond .lt 15, 3) := by decide +kernel
theorem dX6_hasCard_4 : decode cX6_hasCard 4 = .ok (.iload_n 1, 1) := by decide +kernel
theorem dX6_hasCard_5 : decode cX6_hasCard 5 = .ok (.aload_n 0, 1) := by decide +kernel
theorem dX6_hasCard_6 : decode cX6_hasCard 6 = .ok (.getfield 35, 3) := by decide +kernel
theorem dX6_hasCard_9 : decode cX6_hasCard 9 = .ok (.if_icmp .ge 7, 3) := by decide +kernel
theorem dX6_hasCard_12 : decode cX6_hasCard 12 = .ok (.iconst 1, 1) := by decide +kernel
theorem dX6_hasCard_13 : decode cX6_hasCard 13 = .ok (.goto 4, 3) := by decide +kernel
theorem dX6_hasCard_16 : decode cX6_hasCard 16 = .ok (.iconst 0, 1) := by decide +kernel
theorem dX6_hasCard_17 : decode cX6_hasCard 17 = .ok (.ireturn, 1) := by decide +kernel
theorem dX6_hasPerson_0 : decode cX6_hasPerson 0 = .ok (.iload_n 1, 1) := by decide +kernel
theorem dX6_hasPerson_1 : decode cX6_hasPerson 1 = .ok (.ifCond .lt 15, 3) := by decide +kernel
theorem dX6_hasPerson_4 : decode cX6_hasPerson 4 = .ok (.iload_n 1, 1) := by decide +kernel
theorem dX6_hasPerson_5 : decode cX6_hasPerson 5 = .ok (.aload_n 0, 1) := by decide +kernel
theorem dX6_hasPerson_6 : decode cX6_hasPerson 6 = .ok (.getfield 38, 3) := by decide +kernel
theorem dX6_hasPerson_9 : decode cX6_hasPerson 9 = .ok (.if_icmp .ge 7, 3) := by decide +kernel
theorem dX6_hasPerson_12 : decode cX6_hasPerson 12 = .ok (.iconst 1, 1) := by decide +kernel
theorem dX6_hasPerson_13 : decode cX6_hasPerson 13 = .ok (.goto 4, 3) := by decide +kernel
theorem dX6_hasPerson_16 : decode cX6_hasPerson 16 = .ok (.iconst 0, 1) := by decide +kernel
theorem dX6_hasPerson_17 : decode cX6_hasPerson 17 = .ok (.ireturn, 1) := by decide +kernel
theorem dX6_hasTwoPersons_0 : decode cX6_hasTwoPersons 0 = .ok (.aload_n 0, 1) := by decide +kernel
theorem dX6_hasTwoPersons_1 : decode cX6_hasTwoPersons 1 = .ok (.iload_n 1, 1) := by decide +kernel
theorem dX6_hasTwoPersons_2 : decode cX6_hasTwoPersons 2 = .ok (.invokevirtual 63, 3) := by decide +kernel
theorem dX6_hasTwoPersons_5 : decode cX6_hasTwoPersons 5 = .ok (.ifCond .eq 20, 3) := by decide +kernel
theorem dX6_hasTwoPersons_8 : decode cX6_hasTwoPersons 8 = .ok (.aload_n 0, 1) := by decide +kernel
theorem dX6_hasTwoPersons_9 : decode cX6_hasTwoPersons 9 = .ok (.iload_n 2, 1) := by decide +kernel
theorem dX6_hasTwoPersons_10 : decode cX6_hasTwoPersons 10 = .ok (.invokevirtual 63, 3) := by decide +kernel
theorem dX6_hasTwoPersons_13 : decode cX6_hasTwoPersons 13 = .ok (.ifCond .eq 12, 3) := by decide +kernel
theorem dX6_hasTwoPersons_16 : decode cX6_hasTwoPersons 16 = .ok (.iload_n 1, 1) := by decide +kernel
theorem dX6_hasTwoPersons_17 : decode cX6_hasTwoPersons 17 = .ok (.iload_n 2, 1) := by decide +kernel
theorem dX6_hasTwoPersons_18 : decode cX6_hasTwoPersons 18 = .ok (.if_icmp .eq 7, 3) := by decide +kernel
theorem dX6_hasTwoPersons_21 : decode cX6_hasTwoPersons 21 = .ok (.iconst 1, 1) := by decide +kernel
theorem dX6_hasTwoPersons_22 : decode cX6_hasTwoPersons 22 = .ok (.goto 4, 3) := by decide +kernel
theorem dX6_hasTwoPersons_25 : decode cX6_hasTwoPersons 25 = .ok (.iconst 0, 1) := by decide +kernel
theorem dX6_hasTwoPersons_26 : decode cX6_hasTwoPersons 26 = .ok (.ireturn, 1) := by decide +kernel
theorem dX6_rankOf_0 : decode cX6_rankOf 0 = .ok (.iload_n 1, 1) := by decide +kernel
theorem dX6_rankOf_1 : decode cX6_rankOf 1 = .ok (.ifCond .lt 9, 3) := by decide +kernel
theorem dX6_rankOf_4 : decode cX6_rankOf 4 = .ok (.iload_n 1, 1) := by decide +kernel
theorem dX6_rankOf_5 : decode cX6_rankOf 5 = .ok (.bipush 12, 2) := by decide +kernel
theorem dX6_rankOf_7 : decode cX6_rankOf 7 = .ok (.if_icmp .lt 7, 3) := by decide +kernel
theorem dX6_rankOf_10 : decode cX6_rankOf 10 = .ok (.iconst (-1), 1) := by decide +kernel
theorem dX6_rankOf_11 : decode cX6_rankOf 11 = .ok (.goto 9, 3) := by decide +kernel
theorem dX6_rankOf_14 : decode cX6_rankOf 14 = .ok (.aload_n 0, 1) := by decide +kernel
theorem dX6_rankOf_15 : decode cX6_rankOf 15 = .ok (.getfield 15, 3) := by decide +kernel
theorem dX6_rankOf_18 : decode cX6_rankOf 18 = .ok (.iload_n 1, 1) := by decide +kernel
theorem dX6_rankOf_19 : decode cX6_rankOf 19 = .ok (.iaload, 1) := by decide +kernel
theorem dX6_rankOf_20 : decode cX6_rankOf 20 = .ok (.ireturn, 1) := by decide +kernel
theorem dX6_suitOf_0 : decode cX6_suitOf 0 = .ok (.iload_n 1, 1) := by decide +kernel
theorem dX6_suitOf_1 : decode cX6_suitOf 1 = .ok (.ifCond .lt 9, 3) := by decide +kernel
theorem dX6_suitOf_4 : decode cX6_suitOf 4 = .ok (.iload_n 1, 1) := by decide +kernel
theorem dX6_suitOf_5 : decode cX6_suitOf 5 = .ok (.bipush 12, 2) := by decide +kernel
theorem dX6_suitOf_7 : decode cX6_suitOf 7 = .ok (.if_icmp .lt 7, 3) := by decide +kernel
theorem dX6_suitOf_10 : decode cX6_suitOf 10 = .ok (.iconst (-1), 1) := by decide +kernel
theorem dX6_suitOf_11 : decode cX6_suitOf 11 = .ok (.goto 9, 3) := by decide +kernel
theorem dX6_suitOf_14 : decode cX6_suitOf 14 = .ok (.aload_n 0, 1) := by decide +kernel
theorem dX6_suitOf_15 : decode cX6_suitOf 15 = .ok (.getfield 19, 3) := by decide +kernel
theorem dX6_suitOf_18 : decode cX6_suitOf 18 = .ok (.iload_n 1, 1) := by decide +kernel
theorem dX6_suitOf_19 : decode cX6_suitOf 19 = .ok (.iaload, 1) := by decide +kernel
theorem dX6_suitOf_20 : decode cX6_suitOf 20 = .ok (.ireturn, 1) := by decide +kernel
theorem dX6_between_0 : decode cX6_between 0 = .ok (.aload_n 0, 1) := by decide +kernel
theorem dX6_between_1 : decode cX6_between 1 = .ok (.iload_n 2, 1) := by decide +kernel
theorem dX6_between_2 : decode cX6_between 2 = .ok (.iload_n 1, 1) := by decide +kernel
theorem dX6_between_3 : decode cX6_between 3 = .ok (.invokevirtual 67, 3) := by decide +kernel
theorem dX6_between_6 : decode cX6_between 6 = .ok (.ifCond .eq 5, 3) := by decide +kernel
theorem dX6_between_9 : decode cX6_between 9 = .ok (.iconst 0, 1) := by decide +kernel
theorem dX6_between_10 : decode cX6_between 10 = .ok (.ireturn, 1) := by decide +kernel
theorem dX6_between_11 : decode cX6_between 11 = .ok (.aload_n 0, 1) := by decide +kernel
theorem dX6_between_12 : decode cX6_between 12 = .ok (.iload_n 1, 1) := by decide +kernel
theorem dX6_between_13 : decode cX6_between 13 = .ok (.iload_n 2, 1) := by decide +kernel
theorem dX6_between_14 : decode cX6_between 14 = .ok (.invokevirtual 67, 3) := by decide +kernel
theorem dX6_between_17 : decode cX6_between 17 = .ok (.ifCond .eq 7, 3) := by decide +kernel
theorem dX6_between_20 : decode cX6_between 20 = .ok (.iconst 1, 1) := by decide +kernel
theorem dX6_between_21 : decode cX6_between 21 = .ok (.goto 4, 3) := by decide +kernel
theorem dX6_between_24 : decode cX6_between 24 = .ok (.iconst 2, 1) := by decide +kernel
theorem dX6_between_25 : decode cX6_between 25 = .ok (.ireturn, 1) := by decide +kernel
theorem dX6_isBeaten_0 : decode cX6_isBeaten 0 = .ok (.iload_n 2, 1) := by decide +kernel
theorem dX6_isBeaten_1 : decode cX6_isBeaten 1 = .ok (.ifCond .lt 9, 3) := by decide +kernel
theorem dX6_isBeaten_4 : decode cX6_isBeaten 4 = .ok (.iload_n 2, 1) := by decide +kernel
theorem dX6_isBeaten_5 : decode cX6_isBeaten 5 = .ok (.bipush 12, 2) := by decide +kernel
theorem dX6_isBeaten_7 : decode cX6_isBeaten 7 = .ok (.if_icmp .lt 5, 3) := by decide +kernel
theorem dX6_isBeaten_10 : decode cX6_isBeaten 10 = .ok (.iconst 0, 1) := by decide +kernel
theorem dX6_isBeaten_11 : decode cX6_isBeaten 11 = .ok (.ireturn, 1) := by decide +kernel
theorem dX6_isBeaten_12 : decode cX6_isBeaten 12 = .ok (.iload_n 1, 1) := by decide +kernel
theorem dX6_isBeaten_13 : decode cX6_isBeaten 13 = .ok (.iconst (-1), 1) := by decide +kernel
theorem dX6_isBeaten_14 : decode cX6_isBeaten 14 = .ok (.if_icmp .eq 17, 3) := by decide +kernel
theorem dX6_isBeaten_17 : decode cX6_isBeaten 17 = .ok (.aload_n 0, 1) := by decide +kernel
theorem dX6_isBeaten_18 : decode cX6_isBeaten 18 = .ok (.getfield 22, 3) := by decide +kernel
theorem dX6_isBeaten_21 : decode cX6_isBeaten 21 = .ok (.iload_n 2, 1) := by decide +kernel
theorem dX6_isBeaten_22 : decode cX6_isBeaten 22 = .ok (.iaload, 1) := by decide +kernel
theorem dX6_isBeaten_23 : decode cX6_isBeaten 23 = .ok (.iload_n 1, 1) := by decide +kernel
theorem dX6_isBeaten_24 : decode cX6_isBeaten 24 = .ok (.ishr, 1) := by decide +kernel
theorem dX6_isBeaten_25 : decode cX6_isBeaten 25 = .ok (.iconst 1, 1) := by decide +kernel
theorem dX6_isBeaten_26 : decode cX6_isBeaten 26 = .ok (.iand, 1) := by decide +kernel
theorem dX6_isBeaten_27 : decode cX6_isBeaten 27 = .ok (.iconst 1, 1) := by decide +kernel
theorem dX6_isBeaten_28 : decode cX6_isBeaten 28 = .ok (.if_icmp .ne 7, 3) := by decide +kernel
theorem dX6_isBeaten_31 : decode cX6_isBeaten 31 = .ok (.iconst 1, 1) := by decide +kernel
theorem dX6_isBeaten_32 : decode cX6_isBeaten 32 = .ok (.goto 4, 3) := by decide +kernel
theorem dX6_isBeaten_35 : decode cX6_isBeaten 35 = .ok (.iconst 0, 1) := by decide +kernel
theorem dX6_isBeaten_36 : decode cX6_isBeaten 36 = .ok (.ireturn, 1) := by decide +kernel
theorem dX6_byRule_0 : decode cX6_byRule 0 = .ok (.aload_n 0, 1) := by decide +kernel
theorem dX6_byRule_1 : decode cX6_byRule 1 = .ok (.iload_n 1, 1) := by decide +kernel
theorem dX6_byRule_2 : decode cX6_byRule 2 = .ok (.iload_n 2, 1) := by decide +kernel
theorem dX6_byRule_3 : decode cX6_byRule 3 = .ok (.iload_n 3, 1) := by decide +kernel
theorem dX6_byRule_4 : decode cX6_byRule 4 = .ok (.iconst 2, 1) := by decide +kernel
theorem dX6_byRule_5 : decode cX6_byRule 5 = .ok (.idiv, 1) := by decide +kernel
theorem dX6_byRule_6 : decode cX6_byRule 6 = .ok (.iload_n 3, 1) := by decide +kernel
theorem dX6_byRule_7 : decode cX6_byRule 7 = .ok (.iconst 2, 1) := by decide +kernel
theorem dX6_byRule_8 : decode cX6_byRule 8 = .ok (.irem, 1) := by decide +kernel
theorem dX6_byRule_9 : decode cX6_byRule 9 = .ok (.invokevirtual 55, 3) := by decide +kernel
theorem dX6_byRule_12 : decode cX6_byRule 12 = .ok (.ireturn, 1) := by decide +kernel
theorem dX6_byTrump_0 : decode cX6_byTrump 0 = .ok (.aload_n 0, 1) := by decide +kernel
theorem dX6_byTrump_1 : decode cX6_byTrump 1 = .ok (.iload_n 1, 1) := by decide +kernel
theorem dX6_byTrump_2 : decode cX6_byTrump 2 = .ok (.invokevirtual 71, 3) := by decide +kernel
theorem dX6_byTrump_5 : decode cX6_byTrump 5 = .ok (.iload_n 3, 1) := by decide +kernel
theorem dX6_byTrump_6 : decode cX6_byTrump 6 = .ok (.if_icmp .ne 7, 3) := by decide +kernel
theorem dX6_byTrump_9 : decode cX6_byTrump 9 = .ok (.iconst 1, 1) := by decide +kernel
theorem dX6_byTrump_10 : decode cX6_byTrump 10 = .ok (.goto 4, 3) := by decide +kernel
theorem dX6_byTrump_13 : decode cX6_byTrump 13 = .ok (.iconst 0, 1) := by decide +kernel
theorem dX6_byTrump_14 : decode cX6_byTrump 14 = .ok (.istore 5, 2) := by decide +kernel
theorem dX6_byTrump_16 : decode cX6_byTrump 16 = .ok (.aload_n 0, 1) := by decide +kernel
theorem dX6_byTrump_17 : decode cX6_byTrump 17 = .ok (.iload_n 2, 1) := by decide +kernel
theorem dX6_byTrump_18 : decode cX6_byTrump 18 = .ok (.invokevirtual 71, 3) := by decide +kernel
theorem dX6_byTrump_21 : decode cX6_byTrump 21 = .ok (.iload_n 3, 1) := by decide +kernel
theorem dX6_byTrump_22 : decode cX6_byTrump 22 = .ok (.if_icmp .ne 7, 3) := by decide +kernel
theorem dX6_byTrump_25 : decode cX6_byTrump 25 = .ok (.iconst 1, 1) := by decide +kernel
theorem dX6_byTrump_26 : decode cX6_byTrump 26 = .ok (.goto 4, 3) := by decide +kernel
theorem dX6_byTrump_29 : decode cX6_byTrump 29 = .ok (.iconst 0, 1) := by decide +kernel
theorem dX6_byTrump_30 : decode cX6_byTrump 30 = .ok (.istore 6, 2) := by decide +kernel
theorem dX6_byTrump_32 : decode cX6_byTrump 32 = .ok (.iload 5, 2) := by decide +kernel
theorem dX6_byTrump_34 : decode cX6_byTrump 34 = .ok (.iload 6, 2) := by decide +kernel
theorem dX6_byTrump_36 : decode cX6_byTrump 36 = .ok (.if_icmp .eq 14, 3) := by decide +kernel
theorem dX6_byTrump_39 : decode cX6_byTrump 39 = .ok (.iload 5, 2) := by decide +kernel
theorem dX6_byTrump_41 : decode cX6_byTrump 41 = .ok (.ifCond .eq 7, 3) := by decide +kernel
theorem dX6_byTrump_44 : decode cX6_byTrump 44 = .ok (.iconst 0, 1) := by decide +kernel
theorem dX6_byTrump_45 : decode cX6_byTrump 45 = .ok (.goto 4, 3) := by decide +kernel
theorem dX6_byTrump_48 : decode cX6_byTrump 48 = .ok (.iconst 1, 1) := by decide +kernel
theorem dX6_byTrump_49 : decode cX6_byTrump 49 = .ok (.ireturn, 1) := by decide +kernel
theorem dX6_byTrump_50 : decode cX6_byTrump 50 = .ok (.aload_n 0, 1) := by decide +kernel
theorem dX6_byTrump_51 : decode cX6_byTrump 51 = .ok (.iload_n 1, 1) := by decide +kernel
theorem dX6_byTrump_52 : decode cX6_byTrump 52 = .ok (.invokevirtual 74, 3) := by decide +kernel
theorem dX6_byTrump_55 : decode cX6_byTrump 55 = .ok (.istore 7, 2) := by decide +kernel
theorem dX6_byTrump_57 : decode cX6_byTrump 57 = .ok (.aload_n 0, 1) := by decide +kernel
theorem dX6_byTrump_58 : decode cX6_byTrump 58 = .ok (.iload_n 2, 1) := by decide +kernel
theorem dX6_byTrump_59 : decode cX6_byTrump 59 = .ok (.invokevirtual 74, 3) := by decide +kernel
theorem dX6_byTrump_62 : decode cX6_byTrump 62 = .ok (.istore 8, 2) := by decide +kernel
theorem dX6_byTrump_64 : decode cX6_byTrump 64 = .ok (.aload_n 0, 1) := by decide +kernel
theorem dX6_byTrump_65 : decode cX6_byTrump 65 = .ok (.getfield 32, 3) := by decide +kernel
theorem dX6_byTrump_68 : decode cX6_byTrump 68 = .ok (.iconst 1, 1) := by decide +kernel
theorem dX6_byTrump_69 : decode cX6_byTrump 69 = .ok (.if_icmp .ne 56, 3) := by decide +kernel
theorem dX6_byTrump_72 : decode cX6_byTrump 72 = .ok (.aload_n 0, 1) := by decide +kernel
theorem dX6_byTrump_73 : decode cX6_byTrump 73 = .ok (.iload_n 1, 1) := by decide +kernel
theorem dX6_byTrump_74 : decode cX6_byTrump 74 = .ok (.invokevirtual 71, 3) := by decide +kernel
theorem dX6_byTrump_77 : decode cX6_byTrump 77 = .ok (.aload_n 0, 1) := by decide +kernel
theorem dX6_byTrump_78 : decode cX6_byTrump 78 = .ok (.iload_n 2, 1) := by decide +kernel
theorem dX6_byTrump_79 : decode cX6_byTrump 79 = .ok (.invokevirtual 71, 3) := by decide +kernel
theorem dX6_byTrump_82 : decode cX6_byTrump 82 = .ok (.if_icmp .ne 43, 3) := by decide +kernel
theorem dX6_byTrump_85 : decode cX6_byTrump 85 = .ok (.iload 7, 2) := by decide +kernel
theorem dX6_byTrump_87 : decode cX6_byTrump 87 = .ok (.bipush 11, 2) := by decide +kernel
theorem dX6_byTrump_89 : decode cX6_byTrump 89 = .ok (.if_icmp .ne 7, 3) := by decide +kernel
theorem dX6_byTrump_92 : decode cX6_byTrump 92 = .ok (.iconst 1, 1) := by decide +kernel
theorem dX6_byTrump_93 : decode cX6_byTrump 93 = .ok (.goto 4, 3) := by decide +kernel
theorem dX6_byTrump_96 : decode cX6_byTrump 96 = .ok (.iconst 0, 1) := by decide +kernel
theorem dX6_byTrump_97 : decode cX6_byTrump 97 = .ok (.iload 8, 2) := by decide +kernel
theorem dX6_byTrump_99 : decode cX6_byTrump 99 = .ok (.bipush 11, 2) := by decide +kernel
theorem dX6_byTrump_101 : decode cX6_byTrump 101 = .ok (.if_icmp .ne 7, 3) := by decide +kernel
theorem dX6_byTrump_104 : decode cX6_byTrump 104 = .ok (.iconst 1, 1) := by decide +kernel
theorem dX6_byTrump_105 : decode cX6_byTrump 105 = .ok (.goto 4, 3) := by decide +kernel
theorem dX6_byTrump_108 : decode cX6_byTrump 108 = .ok (.iconst 0, 1) := by decide +kernel
theorem dX6_byTrump_109 : decode cX6_byTrump 109 = .ok (.if_icmp .eq 16, 3) := by decide +kernel
theorem dX6_byTrump_112 : decode cX6_byTrump 112 = .ok (.iload 7, 2) := by decide +kernel
theorem dX6_byTrump_114 : decode cX6_byTrump 114 = .ok (.bipush 11, 2) := by decide +kernel
theorem dX6_byTrump_116 : decode cX6_byTrump 116 = .ok (.if_icmp .ne 7, 3) := by decide +kernel
theorem dX6_byTrump_119 : decode cX6_byTrump 119 = .ok (.iconst 0, 1) := by decide +kernel
theorem dX6_byTrump_120 : decode cX6_byTrump 120 = .ok (.goto 4, 3) := by decide +kernel
theorem dX6_byTrump_123 : decode cX6_byTrump 123 = .ok (.iconst 1, 1) := by decide +kernel
theorem dX6_byTrump_124 : decode cX6_byTrump 124 = .ok (.ireturn, 1) := by decide +kernel
theorem dX6_byTrump_125 : decode cX6_byTrump 125 = .ok (.iload 7, 2) := by decide +kernel
theorem dX6_byTrump_127 : decode cX6_byTrump 127 = .ok (.iload 8, 2) := by decide +kernel
theorem dX6_byTrump_129 : decode cX6_byTrump 129 = .ok (.if_icmp .ne 5, 3) := by decide +kernel
theorem dX6_byTrump_132 : decode cX6_byTrump 132 = .ok (.iconst 2, 1) := by decide +kernel
theorem dX6_byTrump_133 : decode cX6_byTrump 133 = .ok (.ireturn, 1) := by decide +kernel
theorem dX6_byTrump_134 : decode cX6_byTrump 134 = .ok (.iload 7, 2) := by decide +kernel
theorem dX6_byTrump_136 : decode cX6_byTrump 136 = .ok (.iload 8, 2) := by decide +kernel
theorem dX6_byTrump_138 : decode cX6_byTrump 138 = .ok (.if_icmp .le 7, 3) := by decide +kernel
theorem dX6_byTrump_141 : decode cX6_byTrump 141 = .ok (.iconst 1, 1) := by decide +kernel
theorem dX6_byTrump_142 : decode cX6_byTrump 142 = .ok (.goto 4, 3) := by decide +kernel
theorem dX6_byTrump_145 : decode cX6_byTrump 145 = .ok (.iconst 0, 1) := by decide +kernel
theorem dX6_byTrump_146 : decode cX6_byTrump 146 = .ok (.iload 4, 2) := by decide +kernel
theorem dX6_byTrump_148 : decode cX6_byTrump 148 = .ok (.ifCond .ne 7, 3) := by decide +kernel
theorem dX6_byTrump_151 : decode cX6_byTrump 151 = .ok (.iconst 1, 1) := by decide +kernel
theorem dX6_byTrump_152 : decode cX6_byTrump 152 = .ok (.goto 4, 3) := by decide +kernel
theorem dX6_byTrump_155 : decode cX6_byTrump 155 = .ok (.iconst 0, 1) := by decide +kernel
theorem dX6_byTrump_156 : decode cX6_byTrump 156 = .ok (.if_icmp .ne 7, 3) := by decide +kernel
theorem dX6_byTrump_159 : decode cX6_byTrump 159 = .ok (.iconst 0, 1) := by decide +kernel
theorem dX6_byTrump_160 : decode cX6_byTrump 160 = .ok (.goto 4, 3) := by decide +kernel
theorem dX6_byTrump_163 : decode cX6_byTrump 163 = .ok (.iconst 1, 1) := by decide +kernel
theorem dX6_byTrump_164 : decode cX6_byTrump 164 = .ok (.ireturn, 1) := by decide +kernel
theorem dJ6_bitCount_0f7a4_0 : decode cJ6_bitCount_0f7a4 0 = .ok (.iload_n 0, 1) := by decide +kernel
theorem dJ6_bitCount_0f7a4_1 : decode cJ6_bitCount_0f7a4 1 = .ok (.iload_n 0, 1) := by decide +kernel
theorem dJ6_bitCount_0f7a4_2 : decode cJ6_bitCount_0f7a4 2 = .ok (.iconst 1, 1) := by decide +kernel
theorem dJ6_bitCount_0f7a4_3 : decode cJ6_bitCount_0f7a4 3 = .ok (.iushr, 1) := by decide +kernel
theorem dJ6_bitCount_0f7a4_4 : decode cJ6_bitCount_0f7a4 4 = .ok (.ldc_w 265, 3) := by decide +kernel
theorem dJ6_bitCount_0f7a4_7 : decode cJ6_bitCount_0f7a4 7 = .ok (.iand, 1) := by decide +kernel
theorem dJ6_bitCount_0f7a4_8 : decode cJ6_bitCount_0f7a4 8 = .ok (.isub, 1) := by decide +kernel
theorem dJ6_bitCount_0f7a4_9 : decode cJ6_bitCount_0f7a4 9 = .ok (.istore_n 0, 1) := by decide +kernel
theorem dJ6_bitCount_0f7a4_10 : decode cJ6_bitCount_0f7a4 10 = .ok (.iload_n 0, 1) := by decide +kernel
theorem dJ6_bitCount_0f7a4_11 : decode cJ6_bitCount_0f7a4 11 = .ok (.ldc_w 266, 3) := by decide +kernel
theorem dJ6_bitCount_0f7a4_14 : decode cJ6_bitCount_0f7a4 14 = .ok (.iand, 1) := by decide +kernel
theorem dJ6_bitCount_0f7a4_15 : decode cJ6_bitCount_0f7a4 15 = .ok (.iload_n 0, 1) := by decide +kernel
theorem dJ6_bitCount_0f7a4_16 : decode cJ6_bitCount_0f7a4 16 = .ok (.iconst 2, 1) := by decide +kernel
theorem dJ6_bitCount_0f7a4_17 : decode cJ6_bitCount_0f7a4 17 = .ok (.iushr, 1) := by decide +kernel
theorem dJ6_bitCount_0f7a4_18 : decode cJ6_bitCount_0f7a4 18 = .ok (.ldc_w 266, 3) := by decide +kernel
theorem dJ6_bitCount_0f7a4_21 : decode cJ6_bitCount_0f7a4 21 = .ok (.iand, 1) := by decide +kernel
theorem dJ6_bitCount_0f7a4_22 : decode cJ6_bitCount_0f7a4 22 = .ok (.iadd, 1) := by decide +kernel
theorem dJ6_bitCount_0f7a4_23 : decode cJ6_bitCount_0f7a4 23 = .ok (.istore_n 0, 1) := by decide +kernel
theorem dJ6_bitCount_0f7a4_24 : decode cJ6_bitCount_0f7a4 24 = .ok (.iload_n 0, 1) := by decide +kernel
theorem dJ6_bitCount_0f7a4_25 : decode cJ6_bitCount_0f7a4 25 = .ok (.iload_n 0, 1) := by decide +kernel
theorem dJ6_bitCount_0f7a4_26 : decode cJ6_bitCount_0f7a4 26 = .ok (.iconst 4, 1) := by decide +kernel
theorem dJ6_bitCount_0f7a4_27 : decode cJ6_bitCount_0f7a4 27 = .ok (.iushr, 1) := by decide +kernel
theorem dJ6_bitCount_0f7a4_28 : decode cJ6_bitCount_0f7a4 28 = .ok (.iadd, 1) := by decide +kernel
theorem dJ6_bitCount_0f7a4_29 : decode cJ6_bitCount_0f7a4 29 = .ok (.ldc_w 267, 3) := by decide +kernel
theorem dJ6_bitCount_0f7a4_32 : decode cJ6_bitCount_0f7a4 32 = .ok (.iand, 1) := by decide +kernel
theorem dJ6_bitCount_0f7a4_33 : decode cJ6_bitCount_0f7a4 33 = .ok (.istore_n 0, 1) := by decide +kernel
theorem dJ6_bitCount_0f7a4_34 : decode cJ6_bitCount_0f7a4 34 = .ok (.iload_n 0, 1) := by decide +kernel
theorem dJ6_bitCount_0f7a4_35 : decode cJ6_bitCount_0f7a4 35 = .ok (.iload_n 0, 1) := by decide +kernel
theorem dJ6_bitCount_0f7a4_36 : decode cJ6_bitCount_0f7a4 36 = .ok (.bipush 8, 2) := by decide +kernel
theorem dJ6_bitCount_0f7a4_38 : decode cJ6_bitCount_0f7a4 38 = .ok (.iushr, 1) := by decide +kernel
theorem dJ6_bitCount_0f7a4_39 : decode cJ6_bitCount_0f7a4 39 = .ok (.iadd, 1) := by decide +kernel
theorem dJ6_bitCount_0f7a4_40 : decode cJ6_bitCount_0f7a4 40 = .ok (.istore_n 0, 1) := by decide +kernel
theorem dJ6_bitCount_0f7a4_41 : decode cJ6_bitCount_0f7a4 41 = .ok (.iload_n 0, 1) := by decide +kernel
theorem dJ6_bitCount_0f7a4_42 : decode cJ6_bitCount_0f7a4 42 = .ok (.iload_n 0, 1) := by decide +kernel
theorem dJ6_bitCount_0f7a4_43 : decode cJ6_bitCount_0f7a4 43 = .ok (.bipush 16, 2) := by decide +kernel
theorem dJ6_bitCount_0f7a4_45 : decode cJ6_bitCount_0f7a4 45 = .ok (.iushr, 1) := by decide +kernel
theorem dJ6_bitCount_0f7a4_46 : decode cJ6_bitCount_0f7a4 46 = .ok (.iadd, 1) := by decide +kernel
theorem dJ6_bitCount_0f7a4_47 : decode cJ6_bitCount_0f7a4 47 = .ok (.istore_n 0, 1) := by decide +kernel
theorem dJ6_bitCount_0f7a4_48 : decode cJ6_bitCount_0f7a4 48 = .ok (.iload_n 0, 1) := by decide +kernel
theorem dJ6_bitCount_0f7a4_49 : decode cJ6_bitCount_0f7a4 49 = .ok (.bipush 63, 2) := by decide +kernel
theorem dJ6_bitCount_0f7a4_51 : decode cJ6_bitCount_0f7a4 51 = .ok (.iand, 1) := by decide +kernel
theorem dJ6_bitCount_0f7a4_52 : decode cJ6_bitCount_0f7a4 52 = .ok (.ireturn, 1) := by decide +kernel
theorem dJ9_floorMod_7cf53_0 : decode cJ9_floorMod_7cf53 0 = .ok (.iload_n 0, 1) := by decide +kernel
theorem dJ9_floorMod_7cf53_1 : decode cJ9_floorMod_7cf53 1 = .ok (.iload_n 1, 1) := by decide +kernel
theorem dJ9_floorMod_7cf53_2 : decode cJ9_floorMod_7cf53 2 = .ok (.irem, 1) := by decide +kernel
theorem dJ9_floorMod_7cf53_3 : decode cJ9_floorMod_7cf53 3 = .ok (.istore_n 2, 1) := by decide +kernel
theorem dJ9_floorMod_7cf53_4 : decode cJ9_floorMod_7cf53 4 = .ok (.iload_n 0, 1) := by decide +kernel
theorem dJ9_floorMod_7cf53_5 : decode cJ9_floorMod_7cf53 5 = .ok (.iload_n 1, 1) := by decide +kernel
theorem dJ9_floorMod_7cf53_6 : decode cJ9_floorMod_7cf53 6 = .ok (.ixor, 1) := by decide +kernel
theorem dJ9_floorMod_7cf53_7 : decode cJ9_floorMod_7cf53 7 = .ok (.ifCond .ge 11, 3) := by decide +kernel
theorem dJ9_floorMod_7cf53_10 : decode cJ9_floorMod_7cf53 10 = .ok (.iload_n 2, 1) := by decide +kernel
theorem dJ9_floorMod_7cf53_11 : decode cJ9_floorMod_7cf53 11 = .ok (.ifCond .eq 7, 3) := by decide +kernel
theorem dJ9_floorMod_7cf53_14 : decode cJ9_floorMod_7cf53 14 = .ok (.iload_n 2, 1) := by decide +kernel
theorem dJ9_floorMod_7cf53_15 : decode cJ9_floorMod_7cf53 15 = .ok (.iload_n 1, 1) := by decide +kernel
theorem dJ9_floorMod_7cf53_16 : decode cJ9_floorMod_7cf53 16 = .ok (.iadd, 1) := by decide +kernel
theorem dJ9_floorMod_7cf53_17 : decode cJ9_floorMod_7cf53 17 = .ok (.ireturn, 1) := by decide +kernel
theorem dJ9_floorMod_7cf53_18 : decode cJ9_floorMod_7cf53 18 = .ok (.iload_n 2, 1) := by decide +kernel
theorem dJ9_floorMod_7cf53_19 : decode cJ9_floorMod_7cf53 19 = .ok (.ireturn, 1) := by decide +kernel
theorem dJ9_max_7cf53_0 : decode cJ9_max_7cf53 0 = .ok (.iload_n 0, 1) := by decide +kernel
theorem dJ9_max_7cf53_1 : decode cJ9_max_7cf53 1 = .ok (.iload_n 1, 1) := by decide +kernel
theorem dJ9_max_7cf53_2 : decode cJ9_max_7cf53 2 = .ok (.if_icmp .lt 7, 3) := by decide +kernel
theorem dJ9_max_7cf53_5 : decode cJ9_max_7cf53 5 = .ok (.iload_n 0, 1) := by decide +kernel
theorem dJ9_max_7cf53_6 : decode cJ9_max_7cf53 6 = .ok (.goto 4, 3) := by decide +kernel
theorem dJ9_max_7cf53_9 : decode cJ9_max_7cf53 9 = .ok (.iload_n 1, 1) := by decide +kernel
theorem dJ9_max_7cf53_10 : decode cJ9_max_7cf53 10 = .ok (.ireturn, 1) := by decide +kernel
theorem dJ9_min_7cf53_0 : decode cJ9_min_7cf53 0 = .ok (.iload_n 0, 1) := by decide +kernel
theorem dJ9_min_7cf53_1 : decode cJ9_min_7cf53 1 = .ok (.iload_n 1, 1) := by decide +kernel
theorem dJ9_min_7cf53_2 : decode cJ9_min_7cf53 2 = .ok (.if_icmp .gt 7, 3) := by decide +kernel
theorem dJ9_min_7cf53_5 : decode cJ9_min_7cf53 5 = .ok (.iload_n 0, 1) := by decide +kernel
theorem dJ9_min_7cf53_6 : decode cJ9_min_7cf53 6 = .ok (.goto 4, 3) := by decide +kernel
theorem dJ9_min_7cf53_9 : decode cJ9_min_7cf53 9 = .ok (.iload_n 1, 1) := by decide +kernel
theorem dJ9_min_7cf53_10 : decode cJ9_min_7cf53 10 = .ok (.ireturn, 1) := by decide +kernel
theorem dJ7_fill_53178_0 : decode cJ7_fill_53178 0 = .ok (.iconst 0, 1) := by decide +kernel
theorem dJ7_fill_53178_1 : decode cJ7_fill_53178 1 = .ok (.istore_n 2, 1) := by decide +kernel
theorem dJ7_fill_53178_2 : decode cJ7_fill_53178 2 = .ok (.aload_n 0, 1) := by decide +kernel
theorem dJ7_fill_53178_3 : decode cJ7_fill_53178 3 = .ok (.arraylength, 1) := by decide +kernel
theorem dJ7_fill_53178_4 : decode cJ7_fill_53178 4 = .ok (.istore_n 3, 1) := by decide +kernel
theorem dJ7_fill_53178_5 : decode cJ7_fill_53178 5 = .ok (.iload_n 2, 1) := by decide +kernel
theorem dJ7_fill_53178_6 : decode cJ7_fill_53178 6 = .ok (.iload_n 3, 1) := by decide +kernel
theorem dJ7_fill_53178_7 : decode cJ7_fill_53178 7 = .ok (.if_icmp .ge 13, 3) := by decide +kernel
theorem dJ7_fill_53178_10 : decode cJ7_fill_53178 10 = .ok (.aload_n 0, 1) := by decide +kernel
theorem dJ7_fill_53178_11 : decode cJ7_fill_53178 11 = .ok (.iload_n 2, 1) := by decide +kernel
theorem dJ7_fill_53178_12 : decode cJ7_fill_53178 12 = .ok (.iload_n 1, 1) := by decide +kernel
theorem dJ7_fill_53178_13 : decode cJ7_fill_53178 13 = .ok (.iastore, 1) := by decide +kernel
theorem dJ7_fill_53178_14 : decode cJ7_fill_53178 14 = .ok (.iinc 2 1, 3) := by decide +kernel
theorem dJ7_fill_53178_17 : decode cJ7_fill_53178 17 = .ok (.goto (-12), 3) := by decide +kernel
theorem dJ7_fill_53178_20 : decode cJ7_fill_53178 20 = .ok (.return_, 1) := by decide +kernel
