theorem dX0_init_0 : decode cX0_init 0 = .ok (.aload_n 0, 1) := by decide +kernel
theorem dX0_init_1 : decode cX0_init 1 = .ok (.invokespecial 3, 3) := by decide +kernel
theorem dX0_init_4 : decode cX0_init 4 = .ok (.aload_n 0, 1) := by decide +kernel
theorem dX0_init_5 : decode cX0_init 5 = .ok (.iconst 5, 1) := by decide +kernel
theorem dX0_init_6 : decode cX0_init 6 = .ok (.newarray .int, 2) := by decide +kernel
theorem dX0_init_8 : decode cX0_init 8 = .ok (.putfield 9, 3) := by decide +kernel
theorem dX0_init_11 : decode cX0_init 11 = .ok (.aload_n 0, 1) := by decide +kernel
theorem dX0_init_12 : decode cX0_init 12 = .ok (.bipush 6, 2) := by decide +kernel
theorem dX0_init_14 : decode cX0_init 14 = .ok (.newarray .int, 2) := by decide +kernel
theorem dX0_init_16 : decode cX0_init 16 = .ok (.putfield 15, 3) := by decide +kernel
theorem dX0_init_19 : decode cX0_init 19 = .ok (.aload_n 0, 1) := by decide +kernel
theorem dX0_init_20 : decode cX0_init 20 = .ok (.bipush 6, 2) := by decide +kernel
theorem dX0_init_22 : decode cX0_init 22 = .ok (.newarray .int, 2) := by decide +kernel
theorem dX0_init_24 : decode cX0_init 24 = .ok (.putfield 18, 3) := by decide +kernel
theorem dX0_init_27 : decode cX0_init 27 = .ok (.aload_n 0, 1) := by decide +kernel
theorem dX0_init_28 : decode cX0_init 28 = .ok (.bipush 108, 2) := by decide +kernel
theorem dX0_init_30 : decode cX0_init 30 = .ok (.newarray .int, 2) := by decide +kernel
theorem dX0_init_32 : decode cX0_init 32 = .ok (.putfield 21, 3) := by decide +kernel
theorem dX0_init_35 : decode cX0_init 35 = .ok (.return_, 1) := by decide +kernel
theorem dX0_lay_0 : decode cX0_lay 0 = .ok (.aload_n 0, 1) := by decide +kernel
theorem dX0_lay_1 : decode cX0_lay 1 = .ok (.iload_n 1, 1) := by decide +kernel
theorem dX0_lay_2 : decode cX0_lay 2 = .ok (.aload_n 3, 1) := by decide +kernel
theorem dX0_lay_3 : decode cX0_lay 3 = .ok (.getfield 24, 3) := by decide +kernel
theorem dX0_lay_6 : decode cX0_lay 6 = .ok (.iconst 5, 1) := by decide +kernel
theorem dX0_lay_7 : decode cX0_lay 7 = .ok (.invokestatic 30, 3) := by decide +kernel
theorem dX0_lay_10 : decode cX0_lay 10 = .ok (.invokestatic 30, 3) := by decide +kernel
theorem dX0_lay_13 : decode cX0_lay 13 = .ok (.putfield 36, 3) := by decide +kernel
theorem dX0_lay_16 : decode cX0_lay 16 = .ok (.aload_n 0, 1) := by decide +kernel
theorem dX0_lay_17 : decode cX0_lay 17 = .ok (.aload_n 0, 1) := by decide +kernel
theorem dX0_lay_18 : decode cX0_lay 18 = .ok (.getfield 36, 3) := by decide +kernel
theorem dX0_lay_21 : decode cX0_lay 21 = .ok (.aload_n 2, 1) := by decide +kernel
theorem dX0_lay_22 : decode cX0_lay 22 = .ok (.getfield 39, 3) := by decide +kernel
theorem dX0_lay_25 : decode cX0_lay 25 = .ok (.bipush 6, 2) := by decide +kernel
theorem dX0_lay_27 : decode cX0_lay 27 = .ok (.invokestatic 30, 3) := by decide +kernel
theorem dX0_lay_30 : decode cX0_lay 30 = .ok (.invokestatic 30, 3) := by decide +kernel
theorem dX0_lay_33 : decode cX0_lay 33 = .ok (.putfield 44, 3) := by decide +kernel
theorem dX0_lay_36 : decode cX0_lay 36 = .ok (.iconst 0, 1) := by decide +kernel
theorem dX0_lay_37 : decode cX0_lay 37 = .ok (.istore 5, 2) := by decide +kernel
theorem dX0_lay_39 : decode cX0_lay 39 = .ok (.iload 5, 2) := by decide +kernel
theorem dX0_lay_41 : decode cX0_lay 41 = .ok (.iconst 5, 1) := by decide +kernel
theorem dX0_lay_42 : decode cX0_lay 42 = .ok (.if_icmp .ge 22, 3) := by decide +kernel
theorem dX0_lay_45 : decode cX0_lay 45 = .ok (.aload_n 0, 1) := by decide +kernel
theorem dX0_lay_46 : decode cX0_lay 46 = .ok (.getfield 9, 3) := by decide +kernel
theorem dX0_lay_49 : decode cX0_lay 49 = .ok (.iload 5, 2) := by decide +kernel
theorem dX0_lay_51 : decode cX0_lay 51 = .ok (.aload_n 3, 1) := by decide +kernel
theorem dX0_lay_52 : decode cX0_lay 52 = .ok (.iload 5, 2) := by decide +kernel
theorem dX0_lay_54 : decode cX0_lay 54 = .ok (.invokevirtual 47, 3) := by decide +kernel
theorem dX0_lay_57 : decode cX0_lay 57 = .ok (.iastore, 1) := by decide +kernel
theorem dX0_lay_58 : decode cX0_lay 58 = .ok (.iinc 5 1, 3) := by decide +kernel
theorem dX0_lay_61 : decode cX0_lay 61 = .ok (.goto (-22), 3) := by decide +kernel
theorem dX0_lay_64 : decode cX0_lay 64 = .ok (.aload_n 0, 1) := by decide +kernel
theorem dX0_lay_65 : decode cX0_lay 65 = .ok (.iconst 0, 1) := by decide +kernel
theorem dX0_lay_66 : decode cX0_lay 66 = .ok (.putfield 51, 3) := by decide +kernel
theorem dX0_lay_69 : decode cX0_lay 69 = .ok (.aload_n 0, 1) := by decide +kernel
theorem dX0_lay_70 : decode cX0_lay 70 = .ok (.getfield 18, 3) := by decide +kernel
theorem dX0_lay_73 : decode cX0_lay 73 = .ok (.iconst (-1), 1) := by decide +kernel
theorem dX0_lay_74 : decode cX0_lay 74 = .ok (.invokestatic 54, 3) := by decide +kernel
theorem dX0_lay_77 : decode cX0_lay 77 = .ok (.aload_n 0, 1) := by decide +kernel
theorem dX0_lay_78 : decode cX0_lay 78 = .ok (.getfield 21, 3) := by decide +kernel
theorem dX0_lay_81 : decode cX0_lay 81 = .ok (.iconst 0, 1) := by decide +kernel
theorem dX0_lay_82 : decode cX0_lay 82 = .ok (.invokestatic 54, 3) := by decide +kernel
theorem dX0_lay_85 : decode cX0_lay 85 = .ok (.aload_n 0, 1) := by decide +kernel
theorem dX0_lay_86 : decode cX0_lay 86 = .ok (.iconst 0, 1) := by decide +kernel
theorem dX0_lay_87 : decode cX0_lay 87 = .ok (.iconst 0, 1) := by decide +kernel
theorem dX0_lay_88 : decode cX0_lay 88 = .ok (.aload_n 2, 1) := by decide +kernel
theorem dX0_lay_89 : decode cX0_lay 89 = .ok (.aload 4, 2) := by decide +kernel
theorem dX0_lay_91 : decode cX0_lay 91 = .ok (.invokevirtual 60, 3) := by decide +kernel
theorem dX0_lay_94 : decode cX0_lay 94 = .ok (.return_, 1) := by decide +kernel
theorem dX0_sureOf_0 : decode cX0_sureOf 0 = .ok (.iload_n 1, 1) := by decide +kernel
theorem dX0_sureOf_1 : decode cX0_sureOf 1 = .ok (.ifCond .lt 9, 3) := by decide +kernel
theorem dX0_sureOf_4 : decode cX0_sureOf 4 = .ok (.iload_n 1, 1) := by decide +kernel
theorem dX0_sureOf_5 : decode cX0_sureOf 5 = .ok (.bipush 6, 2) := by decide +kernel
theorem dX0_sureOf_7 : decode cX0_sureOf 7 = .ok (.if_icmp .lt 7, 3) := by decide +kernel
theorem dX0_sureOf_10 : decode cX0_sureOf 10 = .ok (.iconst (-1), 1) := by decide +kernel
theorem dX0_sureOf_11 : decode cX0_sureOf 11 = .ok (.goto 9, 3) := by decide +kernel
theorem dX0_sureOf_14 : decode cX0_sureOf 14 = .ok (.aload_n 0, 1) := by decide +kernel
theorem dX0_sureOf_15 : decode cX0_sureOf 15 = .ok (.getfield 18, 3) := by decide +kernel
theorem dX0_sureOf_18 : decode cX0_sureOf 18 = .ok (.iload_n 1, 1) := by decide +kernel
theorem dX0_sureOf_19 : decode cX0_sureOf 19 = .ok (.iaload, 1) := by decide +kernel
theorem dX0_sureOf_20 : decode cX0_sureOf 20 = .ok (.ireturn, 1) := by decide +kernel
theorem dX0_bestPair_0 : decode cX0_bestPair 0 = .ok (.aload_n 0, 1) := by decide +kernel
theorem dX0_bestPair_1 : decode cX0_bestPair 1 = .ok (.getfield 51, 3) := by decide +kernel
theorem dX0_bestPair_4 : decode cX0_bestPair 4 = .ok (.istore_n 1, 1) := by decide +kernel
theorem dX0_bestPair_5 : decode cX0_bestPair 5 = .ok (.iconst (-1), 1) := by decide +kernel
theorem dX0_bestPair_6 : decode cX0_bestPair 6 = .ok (.istore_n 2, 1) := by decide +kernel
theorem dX0_bestPair_7 : decode cX0_bestPair 7 = .ok (.iconst 0, 1) := by decide +kernel
theorem dX0_bestPair_8 : decode cX0_bestPair 8 = .ok (.istore_n 3, 1) := by decide +kernel
theorem dX0_bestPair_9 : decode cX0_bestPair 9 = .ok (.iload_n 3, 1) := by decide +kernel
theorem dX0_bestPair_10 : decode cX0_bestPair 10 = .ok (.aload_n 0, 1) := by decide +kernel
theorem dX0_bestPair_11 : decode cX0_bestPair 11 = .ok (.getfield 44, 3) := by decide +kernel
theorem dX0_bestPair_14 : decode cX0_bestPair 14 = .ok (.if_icmp .ge 55, 3) := by decide +kernel
theorem dX0_bestPair_17 : decode cX0_bestPair 17 = .ok (.iload_n 3, 1) := by decide +kernel
theorem dX0_bestPair_18 : decode cX0_bestPair 18 = .ok (.iconst 1, 1) := by decide +kernel
theorem dX0_bestPair_19 : decode cX0_bestPair 19 = .ok (.iadd, 1) := by decide +kernel
theorem dX0_bestPair_20 : decode cX0_bestPair 20 = .ok (.istore 4, 2) := by decide +kernel
theorem dX0_bestPair_22 : decode cX0_bestPair 22 = .ok (.iload 4, 2) := by decide +kernel
theorem dX0_bestPair_24 : decode cX0_bestPair 24 = .ok (.aload_n 0, 1) := by decide +kernel
theorem dX0_bestPair_25 : decode cX0_bestPair 25 = .ok (.getfield 44, 3) := by decide +kernel
theorem dX0_bestPair_28 : decode cX0_bestPair 28 = .ok (.if_icmp .ge 35, 3) := by decide +kernel
theorem dX0_bestPair_31 : decode cX0_bestPair 31 = .ok (.aload_n 0, 1) := by decide +kernel
theorem dX0_bestPair_32 : decode cX0_bestPair 32 = .ok (.iload_n 3, 1) := by decide +kernel
theorem dX0_bestPair_33 : decode cX0_bestPair 33 = .ok (.iload 4, 2) := by decide +kernel
theorem dX0_bestPair_35 : decode cX0_bestPair 35 = .ok (.invokevirtual 64, 3) := by decide +kernel
theorem dX0_bestPair_38 : decode cX0_bestPair 38 = .ok (.istore 5, 2) := by decide +kernel
theorem dX0_bestPair_40 : decode cX0_bestPair 40 = .ok (.iload 5, 2) := by decide +kernel
theorem dX0_bestPair_42 : decode cX0_bestPair 42 = .ok (.iload_n 1, 1) := by decide +kernel
theorem dX0_bestPair_43 : decode cX0_bestPair 43 = .ok (.if_icmp .ge 14, 3) := by decide +kernel
theorem dX0_bestPair_46 : decode cX0_bestPair 46 = .ok (.iload 5, 2) := by decide +kernel
theorem dX0_bestPair_48 : decode cX0_bestPair 48 = .ok (.istore_n 1, 1) := by decide +kernel
theorem dX0_bestPair_49 : decode cX0_bestPair 49 = .ok (.bipush 10, 2) := by decide +kernel
theorem dX0_bestPair_51 : decode cX0_bestPair 51 = .ok (.iload_n 3, 1) := by decide +kernel
theorem dX0_bestPair_52 : decode cX0_bestPair 52 = .ok (.imul, 1) := by decide +kernel
theorem dX0_bestPair_53 : decode cX0_bestPair 53 = .ok (.iload 4, 2) := by decide +kernel
theorem dX0_bestPair_55 : decode cX0_bestPair 55 = .ok (.iadd, 1) := by decide +kernel
theorem dX0_bestPair_56 : decode cX0_bestPair 56 = .ok (.istore_n 2, 1) := by decide +kernel
theorem dX0_bestPair_57 : decode cX0_bestPair 57 = .ok (.iinc 4 1, 3) := by decide +kernel
theorem dX0_bestPair_60 : decode cX0_bestPair 60 = .ok (.goto (-38), 3) := by decide +kernel
theorem dX0_bestPair_63 : decode cX0_bestPair 63 = .ok (.iinc 3 1, 3) := by decide +kernel
theorem dX0_bestPair_66 : decode cX0_bestPair 66 = .ok (.goto (-57), 3) := by decide +kernel
theorem dX0_bestPair_69 : decode cX0_bestPair 69 = .ok (.iload_n 2, 1) := by decide +kernel
theorem dX0_bestPair_70 : decode cX0_bestPair 70 = .ok (.ireturn, 1) := by decide +kernel
theorem dX0_layFrom_0 : decode cX0_layFrom 0 = .ok (.iload_n 1, 1) := by decide +kernel
theorem dX0_layFrom_1 : decode cX0_layFrom 1 = .ok (.ifCond .lt 17, 3) := by decide +kernel
theorem dX0_layFrom_4 : decode cX0_layFrom 4 = .ok (.iload_n 1, 1) := by decide +kernel
theorem dX0_layFrom_5 : decode cX0_layFrom 5 = .ok (.aload_n 0, 1) := by decide +kernel
theorem dX0_layFrom_6 : decode cX0_layFrom 6 = .ok (.getfield 44, 3) := by decide +kernel
theorem dX0_layFrom_9 : decode cX0_layFrom 9 = .ok (.if_icmp .ge 9, 3) := by decide +kernel
theorem dX0_layFrom_12 : decode cX0_layFrom 12 = .ok (.iload_n 1, 1) := by decide +kernel
theorem dX0_layFrom_13 : decode cX0_layFrom 13 = .ok (.bipush 6, 2) := by decide +kernel
theorem dX0_layFrom_15 : decode cX0_layFrom 15 = .ok (.if_icmp .lt 19, 3) := by decide +kernel
theorem dX0_layFrom_18 : decode cX0_layFrom 18 = .ok (.aload_n 0, 1) := by decide +kernel
theorem dX0_layFrom_19 : decode cX0_layFrom 19 = .ok (.aload_n 3, 1) := by decide +kernel
theorem dX0_layFrom_20 : decode cX0_layFrom 20 = .ok (.aload 4, 2) := by decide +kernel
theorem dX0_layFrom_22 : decode cX0_layFrom 22 = .ok (.invokevirtual 67, 3) := by decide +kernel
theorem dX0_layFrom_25 : decode cX0_layFrom 25 = .ok (.ifCond .eq 8, 3) := by decide +kernel
theorem dX0_layFrom_28 : decode cX0_layFrom 28 = .ok (.aload_n 0, 1) := by decide +kernel
theorem dX0_layFrom_29 : decode cX0_layFrom 29 = .ok (.aload_n 3, 1) := by decide +kernel
theorem dX0_layFrom_30 : decode cX0_layFrom 30 = .ok (.invokevirtual 71, 3) := by decide +kernel
theorem dX0_layFrom_33 : decode cX0_layFrom 33 = .ok (.return_, 1) := by decide +kernel
theorem dX0_layFrom_34 : decode cX0_layFrom 34 = .ok (.iconst 0, 1) := by decide +kernel
theorem dX0_layFrom_35 : decode cX0_layFrom 35 = .ok (.istore 5, 2) := by decide +kernel
theorem dX0_layFrom_37 : decode cX0_layFrom 37 = .ok (.iload 5, 2) := by decide +kernel
theorem dX0_layFrom_39 : decode cX0_layFrom 39 = .ok (.aload_n 0, 1) := by decide +kernel
theorem dX0_layFrom_40 : decode cX0_layFrom 40 = .ok (.getfield 36, 3) := by decide +kernel
theorem dX0_layFrom_43 : decode cX0_layFrom 43 = .ok (.if_icmp .ge 53, 3) := by decide +kernel
theorem dX0_layFrom_46 : decode cX0_layFrom 46 = .ok (.iload 5, 2) := by decide +kernel
theorem dX0_layFrom_48 : decode cX0_layFrom 48 = .ok (.iconst 5, 1) := by decide +kernel
theorem dX0_layFrom_49 : decode cX0_layFrom 49 = .ok (.if_icmp .ge 47, 3) := by decide +kernel
theorem dX0_layFrom_52 : decode cX0_layFrom 52 = .ok (.iload_n 2, 1) := by decide +kernel
theorem dX0_layFrom_53 : decode cX0_layFrom 53 = .ok (.iload 5, 2) := by decide +kernel
theorem dX0_layFrom_55 : decode cX0_layFrom 55 = .ok (.ishr, 1) := by decide +kernel
theorem dX0_layFrom_56 : decode cX0_layFrom 56 = .ok (.iconst 1, 1) := by decide +kernel
theorem dX0_layFrom_57 : decode cX0_layFrom 57 = .ok (.iand, 1) := by decide +kernel
theorem dX0_layFrom_58 : decode cX0_layFrom 58 = .ok (.ifCond .ne 32, 3) := by decide +kernel
theorem dX0_layFrom_61 : decode cX0_layFrom 61 = .ok (.aload_n 0, 1) := by decide +kernel
theorem dX0_layFrom_62 : decode cX0_layFrom 62 = .ok (.getfield 15, 3) := by decide +kernel
theorem dX0_layFrom_65 : decode cX0_layFrom 65 = .ok (.iload_n 1, 1) := by decide +kernel
theorem dX0_layFrom_66 : decode cX0_layFrom 66 = .ok (.aload_n 0, 1) := by decide +kernel
theorem dX0_layFrom_67 : decode cX0_layFrom 67 = .ok (.getfield 9, 3) := by decide +kernel
theorem dX0_layFrom_70 : decode cX0_layFrom 70 = .ok (.iload 5, 2) := by decide +kernel
theorem dX0_layFrom_72 : decode cX0_layFrom 72 = .ok (.iaload, 1) := by decide +kernel
theorem dX0_layFrom_73 : decode cX0_layFrom 73 = .ok (.iastore, 1) := by decide +kernel
theorem dX0_layFrom_74 : decode cX0_layFrom 74 = .ok (.aload_n 0, 1) := by decide +kernel
theorem dX0_layFrom_75 : decode cX0_layFrom 75 = .ok (.iload_n 1, 1) := by decide +kernel
theorem dX0_layFrom_76 : decode cX0_layFrom 76 = .ok (.iconst 1, 1) := by decide +kernel
theorem dX0_layFrom_77 : decode cX0_layFrom 77 = .ok (.iadd, 1) := by decide +kernel
theorem dX0_layFrom_78 : decode cX0_layFrom 78 = .ok (.iload_n 2, 1) := by decide +kernel
theorem dX0_layFrom_79 : decode cX0_layFrom 79 = .ok (.iconst 1, 1) := by decide +kernel
theorem dX0_layFrom_80 : decode cX0_layFrom 80 = .ok (.iload 5, 2) := by decide +kernel
theorem dX0_layFrom_82 : decode cX0_layFrom 82 = .ok (.ishl, 1) := by decide +kernel
theorem dX0_layFrom_83 : decode cX0_layFrom 83 = .ok (.ior, 1) := by decide +kernel
theorem dX0_layFrom_84 : decode cX0_layFrom 84 = .ok (.aload_n 3, 1) := by decide +kernel
theorem dX0_layFrom_85 : decode cX0_layFrom 85 = .ok (.aload 4, 2) := by decide +kernel
theorem dX0_layFrom_87 : decode cX0_layFrom 87 = .ok (.invokevirtual 60, 3) := by decide +kernel
theorem dX0_layFrom_90 : decode cX0_layFrom 90 = .ok (.iinc 5 1, 3) := by decide +kernel
theorem dX0_layFrom_93 : decode cX0_layFrom 93 = .ok (.goto (-56), 3) := by decide +kernel
theorem dX0_layFrom_96 : decode cX0_layFrom 96 = .ok (.return_, 1) := by decide +kernel
theorem dX0_cardBefore_0 : decode cX0_cardBefore 0 = .ok (.iload_n 1, 1) := by decide +kernel
theorem dX0_cardBefore_1 : decode cX0_cardBefore 1 = .ok (.ifCond .lt 17, 3) := by decide +kernel
theorem dX0_cardBefore_4 : decode cX0_cardBefore 4 = .ok (.iload_n 1, 1) := by decide +kernel
theorem dX0_cardBefore_5 : decode cX0_cardBefore 5 = .ok (.aload_n 0, 1) := by decide +kernel
theorem dX0_cardBefore_6 : decode cX0_cardBefore 6 = .ok (.getfield 44, 3) := by decide +kernel
theorem dX0_cardBefore_9 : decode cX0_cardBefore 9 = .ok (.if_icmp .ge 9, 3) := by decide +kernel
theorem dX0_cardBefore_12 : decode cX0_cardBefore 12 = .ok (.iload_n 1, 1) := by decide +kernel
theorem dX0_cardBefore_13 : decode cX0_cardBefore 13 = .ok (.bipush 6, 2) := by decide +kernel
theorem dX0_cardBefore_15 : decode cX0_cardBefore 15 = .ok (.if_icmp .lt 7, 3) := by decide +kernel
theorem dX0_cardBefore_18 : decode cX0_cardBefore 18 = .ok (.iconst (-1), 1) := by decide +kernel
theorem dX0_cardBefore_19 : decode cX0_cardBefore 19 = .ok (.goto 9, 3) := by decide +kernel
theorem dX0_cardBefore_22 : decode cX0_cardBefore 22 = .ok (.aload_n 0, 1) := by decide +kernel
theorem dX0_cardBefore_23 : decode cX0_cardBefore 23 = .ok (.getfield 15, 3) := by decide +kernel
theorem dX0_cardBefore_26 : decode cX0_cardBefore 26 = .ok (.iload_n 1, 1) := by decide +kernel
theorem dX0_cardBefore_27 : decode cX0_cardBefore 27 = .ok (.iaload, 1) := by decide +kernel
theorem dX0_cardBefore_28 : decode cX0_cardBefore 28 = .ok (.ireturn, 1) := by decide +kernel
theorem dX0_isAsSeen_0 : decode cX0_isAsSeen 0 = .ok (.iconst 0, 1) := by decide +kernel
theorem dX0_isAsSeen_1 : decode cX0_isAsSeen 1 = .ok (.istore_n 3, 1) := by decide +kernel
theorem dX0_isAsSeen_2 : decode cX0_isAsSeen 2 = .ok (.iload_n 3, 1) := by decide +kernel
theorem dX0_isAsSeen_3 : decode cX0_isAsSeen 3 = .ok (.aload_n 2, 1) := by decide +kernel
theorem dX0_isAsSeen_4 : decode cX0_isAsSeen 4 = .ok (.getfield 75, 3) := by decide +kernel
theorem dX0_isAsSeen_7 : decode cX0_isAsSeen 7 = .ok (.if_icmp .ge 61, 3) := by decide +kernel
theorem dX0_isAsSeen_10 : decode cX0_isAsSeen 10 = .ok (.aload_n 0, 1) := by decide +kernel
theorem dX0_isAsSeen_11 : decode cX0_isAsSeen 11 = .ok (.aload_n 2, 1) := by decide +kernel
theorem dX0_isAsSeen_12 : decode cX0_isAsSeen 12 = .ok (.iload_n 3, 1) := by decide +kernel
theorem dX0_isAsSeen_13 : decode cX0_isAsSeen 13 = .ok (.invokevirtual 80, 3) := by decide +kernel
theorem dX0_isAsSeen_16 : decode cX0_isAsSeen 16 = .ok (.invokevirtual 83, 3) := by decide +kernel
theorem dX0_isAsSeen_19 : decode cX0_isAsSeen 19 = .ok (.istore 4, 2) := by decide +kernel
theorem dX0_isAsSeen_21 : decode cX0_isAsSeen 21 = .ok (.aload_n 0, 1) := by decide +kernel
theorem dX0_isAsSeen_22 : decode cX0_isAsSeen 22 = .ok (.aload_n 2, 1) := by decide +kernel
theorem dX0_isAsSeen_23 : decode cX0_isAsSeen 23 = .ok (.iload_n 3, 1) := by decide +kernel
theorem dX0_isAsSeen_24 : decode cX0_isAsSeen 24 = .ok (.invokevirtual 86, 3) := by decide +kernel
theorem dX0_isAsSeen_27 : decode cX0_isAsSeen 27 = .ok (.invokevirtual 83, 3) := by decide +kernel
theorem dX0_isAsSeen_30 : decode cX0_isAsSeen 30 = .ok (.istore 5, 2) := by decide +kernel
theorem dX0_isAsSeen_32 : decode cX0_isAsSeen 32 = .ok (.iload 4, 2) := by decide +kernel
theorem dX0_isAsSeen_34 : decode cX0_isAsSeen 34 = .ok (.iconst (-1), 1) := by decide +kernel
theorem dX0_isAsSeen_35 : decode cX0_isAsSeen 35 = .ok (.if_icmp .eq 25, 3) := by decide +kernel
theorem dX0_isAsSeen_38 : decode cX0_isAsSeen 38 = .ok (.iload 5, 2) := by decide +kernel
theorem dX0_isAsSeen_40 : decode cX0_isAsSeen 40 = .ok (.iconst (-1), 1) := by decide +kernel
theorem dX0_isAsSeen_41 : decode cX0_isAsSeen 41 = .ok (.if_icmp .eq 19, 3) := by decide +kernel
theorem dX0_isAsSeen_44 : decode cX0_isAsSeen 44 = .ok (.aload_n 1, 1) := by decide +kernel
theorem dX0_isAsSeen_45 : decode cX0_isAsSeen 45 = .ok (.iload 4, 2) := by decide +kernel
theorem dX0_isAsSeen_47 : decode cX0_isAsSeen 47 = .ok (.iload 5, 2) := by decide +kernel
theorem dX0_isAsSeen_49 : decode cX0_isAsSeen 49 = .ok (.invokevirtual 89, 3) := by decide +kernel
theorem dX0_isAsSeen_52 : decode cX0_isAsSeen 52 = .ok (.aload_n 2, 1) := by decide +kernel
theorem dX0_isAsSeen_53 : decode cX0_isAsSeen 53 = .ok (.iload_n 3, 1) := by decide +kernel
theorem dX0_isAsSeen_54 : decode cX0_isAsSeen 54 = .ok (.invokevirtual 92, 3) := by decide +kernel
theorem dX0_isAsSeen_57 : decode cX0_isAsSeen 57 = .ok (.if_icmp .eq 5, 3) := by decide +kernel
theorem dX0_isAsSeen_60 : decode cX0_isAsSeen 60 = .ok (.iconst 0, 1) := by decide +kernel
theorem dX0_isAsSeen_61 : decode cX0_isAsSeen 61 = .ok (.ireturn, 1) := by decide +kernel
theorem dX0_isAsSeen_62 : decode cX0_isAsSeen 62 = .ok (.iinc 3 1, 3) := by decide +kernel
theorem dX0_isAsSeen_65 : decode cX0_isAsSeen 65 = .ok (.goto (-63), 3) := by decide +kernel
theorem dX0_isAsSeen_68 : decode cX0_isAsSeen 68 = .ok (.iconst 1, 1) := by decide +kernel
theorem dX0_isAsSeen_69 : decode cX0_isAsSeen 69 = .ok (.ireturn, 1) := by decide +kernel
theorem dX0_countThis_0 : decode cX0_countThis 0 = .ok (.iconst 0, 1) := by decide +kernel
theorem dX0_countThis_1 : decode cX0_countThis 1 = .ok (.istore_n 2, 1) := by decide +kernel
theorem dX0_countThis_2 : decode cX0_countThis 2 = .ok (.iload_n 2, 1) := by decide +kernel
theorem dX0_countThis_3 : decode cX0_countThis 3 = .ok (.aload_n 0, 1) := by decide +kernel
theorem dX0_countThis_4 : decode cX0_countThis 4 = .ok (.getfield 44, 3) := by decide +kernel
theorem dX0_countThis_7 : decode cX0_countThis 7 = .ok (.if_icmp .ge 125, 3) := by decide +kernel
theorem dX0_countThis_10 : decode cX0_countThis 10 = .ok (.iload_n 2, 1) := by decide +kernel
theorem dX0_countThis_11 : decode cX0_countThis 11 = .ok (.bipush 6, 2) := by decide +kernel
theorem dX0_countThis_13 : decode cX0_countThis 13 = .ok (.if_icmp .ge 119, 3) := by decide +kernel
theorem dX0_countThis_16 : decode cX0_countThis 16 = .ok (.aload_n 0, 1) := by decide +kernel
theorem dX0_countThis_17 : decode cX0_countThis 17 = .ok (.getfield 51, 3) := by decide +kernel
theorem dX0_countThis_20 : decode cX0_countThis 20 = .ok (.ifCond .ne 18, 3) := by decide +kernel
theorem dX0_countThis_23 : decode cX0_countThis 23 = .ok (.aload_n 0, 1) := by decide +kernel
theorem dX0_countThis_24 : decode cX0_countThis 24 = .ok (.getfield 18, 3) := by decide +kernel
theorem dX0_countThis_27 : decode cX0_countThis 27 = .ok (.iload_n 2, 1) := by decide +kernel
theorem dX0_countThis_28 : decode cX0_countThis 28 = .ok (.aload_n 0, 1) := by decide +kernel
theorem dX0_countThis_29 : decode cX0_countThis 29 = .ok (.getfield 15, 3) := by decide +kernel
theorem dX0_countThis_32 : decode cX0_countThis 32 = .ok (.iload_n 2, 1) := by decide +kernel
theorem dX0_countThis_33 : decode cX0_countThis 33 = .ok (.iaload, 1) := by decide +kernel
theorem dX0_countThis_34 : decode cX0_countThis 34 = .ok (.iastore, 1) := by decide +kernel
theorem dX0_countThis_35 : decode cX0_countThis 35 = .ok (.goto 25, 3) := by decide +kernel
theorem dX0_countThis_38 : decode cX0_countThis 38 = .ok (.aload_n 0, 1) := by decide +kernel
theorem dX0_countThis_39 : decode cX0_countThis 39 = .ok (.getfield 18, 3) := by decide +kernel
theorem dX0_countThis_42 : decode cX0_countThis 42 = .ok (.iload_n 2, 1) := by decide +kernel
theorem dX0_countThis_43 : decode cX0_countThis 43 = .ok (.iaload, 1) := by decide +kernel
theorem dX0_countThis_44 : decode cX0_countThis 44 = .ok (.aload_n 0, 1) := by decide +kernel
theorem dX0_countThis_45 : decode cX0_countThis 45 = .ok (.getfield 15, 3) := by decide +kernel
theorem dX0_countThis_48 : decode cX0_countThis 48 = .ok (.iload_n 2, 1) := by decide +kernel
theorem dX0_countThis_49 : decode cX0_countThis 49 = .ok (.iaload, 1) := by decide +kernel
theorem dX0_countThis_50 : decode cX0_countThis 50 = .ok (.if_icmp .eq 10, 3) := by decide +kernel
theorem dX0_countThis_53 : decode cX0_countThis 53 = .ok (.aload_n 0, 1) := by decide +kernel
theorem dX0_countThis_54 : decode cX0_countThis 54 = .ok (.getfield 18, 3) := by decide +kernel
theorem dX0_countThis_57 : decode cX0_countThis 57 = .ok (.iload_n 2, 1) := by decide +kernel
theorem dX0_countThis_58 : decode cX0_countThis 58 = .ok (.iconst (-1), 1) := by decide +kernel
theorem dX0_countThis_59 : decode cX0_countThis 59 = .ok (.iastore, 1) := by decide +kernel
theorem dX0_countThis_60 : decode cX0_countThis 60 = .ok (.iload_n 2, 1) := by decide +kernel
theorem dX0_countThis_61 : decode cX0_countThis 61 = .ok (.iconst 1, 1) := by decide +kernel
theorem dX0_countThis_62 : decode cX0_countThis 62 = .ok (.iadd, 1) := by decide +kernel
theorem dX0_countThis_63 : decode cX0_countThis 63 = .ok (.istore_n 3, 1) := by decide +kernel
theorem dX0_countThis_64 : decode cX0_countThis 64 = .ok (.iload_n 3, 1) := by decide +kernel
theorem dX0_countThis_65 : decode cX0_countThis 65 = .ok (.aload_n 0, 1) := by decide +kernel
theorem dX0_countThis_66 : decode cX0_countThis 66 = .ok (.getfield 44, 3) := by decide +kernel
theorem dX0_countThis_69 : decode cX0_countThis 69 = .ok (.if_icmp .ge 57, 3) := by decide +kernel
theorem dX0_countThis_72 : decode cX0_countThis 72 = .ok (.iload_n 2, 1) := by decide +kernel
theorem dX0_countThis_73 : decode cX0_countThis 73 = .ok (.iload_n 3, 1) := by decide +kernel
theorem dX0_countThis_74 : decode cX0_countThis 74 = .ok (.aload_n 1, 1) := by decide +kernel
theorem dX0_countThis_75 : decode cX0_countThis 75 = .ok (.aload_n 0, 1) := by decide +kernel
theorem dX0_countThis_76 : decode cX0_countThis 76 = .ok (.getfield 15, 3) := by decide +kernel
theorem dX0_countThis_79 : decode cX0_countThis 79 = .ok (.iload_n 2, 1) := by decide +kernel
theorem dX0_countThis_80 : decode cX0_countThis 80 = .ok (.iaload, 1) := by decide +kernel
theorem dX0_countThis_81 : decode cX0_countThis 81 = .ok (.aload_n 0, 1) := by decide +kernel
theorem dX0_countThis_82 : decode cX0_countThis 82 = .ok (.iload_n 3, 1) := by decide +kernel
theorem dX0_countThis_83 : decode cX0_countThis 83 = .ok (.invokevirtual 83, 3) := by decide +kernel
theorem dX0_countThis_86 : decode cX0_countThis 86 = .ok (.invokevirtual 89, 3) := by decide +kernel
theorem dX0_countThis_89 : decode cX0_countThis 89 = .ok (.invokestatic 95, 3) := by decide +kernel
theorem dX0_countThis_92 : decode cX0_countThis 92 = .ok (.istore 4, 2) := by decide +kernel
theorem dX0_countThis_94 : decode cX0_countThis 94 = .ok (.iload 4, 2) := by decide +kernel
theorem dX0_countThis_96 : decode cX0_countThis 96 = .ok (.ifCond .lt 24, 3) := by decide +kernel
theorem dX0_countThis_99 : decode cX0_countThis 99 = .ok (.iload 4, 2) := by decide +kernel
theorem dX0_countThis_101 : decode cX0_countThis 101 = .ok (.aload_n 0, 1) := by decide +kernel
theorem dX0_countThis_102 : decode cX0_countThis 102 = .ok (.getfield 21, 3) := by decide +kernel
theorem dX0_countThis_105 : decode cX0_countThis 105 = .ok (.arraylength, 1) := by decide +kernel
theorem dX0_countThis_106 : decode cX0_countThis 106 = .ok (.if_icmp .ge 14, 3) := by decide +kernel
theorem dX0_countThis_109 : decode cX0_countThis 109 = .ok (.aload_n 0, 1) := by decide +kernel
theorem dX0_countThis_110 : decode cX0_countThis 110 = .ok (.getfield 21, 3) := by decide +kernel
theorem dX0_countThis_113 : decode cX0_countThis 113 = .ok (.iload 4, 2) := by decide +kernel
theorem dX0_countThis_115 : decode cX0_countThis 115 = .ok (.dup2, 1) := by decide +kernel
theorem dX0_countThis_116 : decode cX0_countThis 116 = .ok (.iaload, 1) := by decide +kernel
theorem dX0_countThis_117 : decode cX0_countThis 117 = .ok (.iconst 1, 1) := by decide +kernel
theorem dX0_countThis_118 : decode cX0_countThis 118 = .ok (.iadd, 1) := by decide +kernel
theorem dX0_countThis_119 : decode cX0_countThis 119 = .ok (.iastore, 1) := by decide +kernel
theorem dX0_countThis_120 : decode cX0_countThis 120 = .ok (.iinc 3 1, 3) := by decide +kernel
theorem dX0_countThis_123 : decode cX0_countThis 123 = .ok (.goto (-59), 3) := by decide +kernel
theorem dX0_countThis_126 : decode cX0_countThis 126 = .ok (.iinc 2 1, 3) := by decide +kernel
theorem dX0_countThis_129 : decode cX0_countThis 129 = .ok (.goto (-127), 3) := by decide +kernel
theorem dX0_countThis_132 : decode cX0_countThis 132 = .ok (.aload_n 0, 1) := by decide +kernel
theorem dX0_countThis_133 : decode cX0_countThis 133 = .ok (.dup, 1) := by decide +kernel
theorem dX0_countThis_134 : decode cX0_countThis 134 = .ok (.getfield 51, 3) := by decide +kernel
theorem dX0_countThis_137 : decode cX0_countThis 137 = .ok (.iconst 1, 1) := by decide +kernel
theorem dX0_countThis_138 : decode cX0_countThis 138 = .ok (.iadd, 1) := by decide +kernel
theorem dX0_countThis_139 : decode cX0_countThis 139 = .ok (.putfield 51, 3) := by decide +kernel
theorem dX0_countThis_142 : decode cX0_countThis 142 = .ok (.return_, 1) := by decide +kernel
theorem dX0_partOf_0 : decode cX0_partOf 0 = .ok (.bipush 6, 2) := by decide +kernel
theorem dX0_partOf_2 : decode cX0_partOf 2 = .ok (.iload_n 0, 1) := by decide +kernel
theorem dX0_partOf_3 : decode cX0_partOf 3 = .ok (.imul, 1) := by decide +kernel
theorem dX0_partOf_4 : decode cX0_partOf 4 = .ok (.iload_n 1, 1) := by decide +kernel
theorem dX0_partOf_5 : decode cX0_partOf 5 = .ok (.iadd, 1) := by decide +kernel
theorem dX0_partOf_6 : decode cX0_partOf 6 = .ok (.iconst 3, 1) := by decide +kernel
theorem dX0_partOf_7 : decode cX0_partOf 7 = .ok (.imul, 1) := by decide +kernel
theorem dX0_partOf_8 : decode cX0_partOf 8 = .ok (.iload_n 2, 1) := by decide +kernel
theorem dX0_partOf_9 : decode cX0_partOf 9 = .ok (.iadd, 1) := by decide +kernel
theorem dX0_partOf_10 : decode cX0_partOf 10 = .ok (.ireturn, 1) := by decide +kernel
theorem dX0_greatest_0 : decode cX0_greatest 0 = .ok (.iconst 0, 1) := by decide +kernel
theorem dX0_greatest_1 : decode cX0_greatest 1 = .ok (.istore_n 3, 1) := by decide +kernel
theorem dX0_greatest_2 : decode cX0_greatest 2 = .ok (.iconst 0, 1) := by decide +kernel
theorem dX0_greatest_3 : decode cX0_greatest 3 = .ok (.istore 4, 2) := by decide +kernel
theorem dX0_greatest_5 : decode cX0_greatest 5 = .ok (.iload 4, 2) := by decide +kernel
theorem dX0_greatest_7 : decode cX0_greatest 7 = .ok (.iconst 3, 1) := by decide +kernel
theorem dX0_greatest_8 : decode cX0_greatest 8 = .ok (.if_icmp .ge 45, 3) := by decide +kernel
theorem dX0_greatest_11 : decode cX0_greatest 11 = .ok (.iload_n 1, 1) := by decide +kernel
theorem dX0_greatest_12 : decode cX0_greatest 12 = .ok (.iload_n 2, 1) := by decide +kernel
theorem dX0_greatest_13 : decode cX0_greatest 13 = .ok (.iload 4, 2) := by decide +kernel
theorem dX0_greatest_15 : decode cX0_greatest 15 = .ok (.invokestatic 95, 3) := by decide +kernel
theorem dX0_greatest_18 : decode cX0_greatest 18 = .ok (.istore 5, 2) := by decide +kernel
theorem dX0_greatest_20 : decode cX0_greatest 20 = .ok (.iload 5, 2) := by decide +kernel
theorem dX0_greatest_22 : decode cX0_greatest 22 = .ok (.ifCond .lt 25, 3) := by decide +kernel
theorem dX0_greatest_25 : decode cX0_greatest 25 = .ok (.iload 5, 2) := by decide +kernel
theorem dX0_greatest_27 : decode cX0_greatest 27 = .ok (.aload_n 0, 1) := by decide +kernel
theorem dX0_greatest_28 : decode cX0_greatest 28 = .ok (.getfield 21, 3) := by decide +kernel
theorem dX0_greatest_31 : decode cX0_greatest 31 = .ok (.arraylength, 1) := by decide +kernel
theorem dX0_greatest_32 : decode cX0_greatest 32 = .ok (.if_icmp .ge 15, 3) := by decide +kernel
theorem dX0_greatest_35 : decode cX0_greatest 35 = .ok (.iload_n 3, 1) := by decide +kernel
theorem dX0_greatest_36 : decode cX0_greatest 36 = .ok (.aload_n 0, 1) := by decide +kernel
theorem dX0_greatest_37 : decode cX0_greatest 37 = .ok (.getfield 21, 3) := by decide +kernel
theorem dX0_greatest_40 : decode cX0_greatest 40 = .ok (.iload 5, 2) := by decide +kernel
theorem dX0_greatest_42 : decode cX0_greatest 42 = .ok (.iaload, 1) := by decide +kernel
theorem dX0_greatest_43 : decode cX0_greatest 43 = .ok (.invokestatic 99, 3) := by decide +kernel
theorem dX0_greatest_46 : decode cX0_greatest 46 = .ok (.istore_n 3, 1) := by decide +kernel
theorem dX0_greatest_47 : decode cX0_greatest 47 = .ok (.iinc 4 1, 3) := by decide +kernel
theorem dX0_greatest_50 : decode cX0_greatest 50 = .ok (.goto (-45), 3) := by decide +kernel
theorem dX0_greatest_53 : decode cX0_greatest 53 = .ok (.iload_n 3, 1) := by decide +kernel
theorem dX0_greatest_54 : decode cX0_greatest 54 = .ok (.ireturn, 1) := by decide +kernel
theorem dX1_init_0 : decode cX1_init 0 = .ok (.aload_n 0, 1) := by decide +kernel
theorem dX1_init_1 : decode cX1_init 1 = .ok (.invokespecial 1, 3) := by decide +kernel
theorem dX1_init_4 : decode cX1_init 4 = .ok (.aload_n 0, 1) := by decide +kernel
theorem dX1_init_5 : decode cX1_init 5 = .ok (.new 7, 3) := by decide +kernel
theorem dX1_init_8 : decode cX1_init 8 = .ok (.dup, 1) := by decide +kernel
theorem dX1_init_9 : decode cX1_init 9 = .ok (.invokespecial 9, 3) := by decide +kernel
theorem dX1_init_12 : decode cX1_init 12 = .ok (.putfield 10, 3) := by decide +kernel
theorem dX1_init_15 : decode cX1_init 15 = .ok (.return_, 1) := by decide +kernel
theorem dX2_init_0 : decode cX2_init 0 = .ok (.aload_n 0, 1) := by decide +kernel
theorem dX2_init_1 : decode cX2_init 1 = .ok (.invokespecial 3, 3) := by decide +kernel
theorem dX2_init_4 : decode cX2_init 4 = .ok (.aload_n 0, 1) := by decide +kernel
theorem dX2_init_5 : decode cX2_init 5 = .ok (.bipush 6, 2) := by decide +kernel
theorem dX2_init_7 : decode cX2_init 7 = .ok (.newarray .int, 2) := by decide +kernel
theorem dX2_init_9 : decode cX2_init 9 = .ok (.putfield 9, 3) := by decide +kernel
theorem dX2_init_12 : decode cX2_init 12 = .ok (.aload_n 0, 1) := by decide +kernel
theorem dX2_init_13 : decode cX2_init 13 = .ok (.bipush 6, 2) := by decide +kernel
theorem dX2_init_15 : decode cX2_init 15 = .ok (.newarray .int, 2) := by decide +kernel
theorem dX2_init_17 : decode cX2_init 17 = .ok (.putfield 15, 3) := by decide +kernel
theorem dX2_init_20 : decode cX2_init 20 = .ok (.aload_n 0, 1) := by decide +kernel
theorem dX2_init_21 : decode cX2_init 21 = .ok (.bipush 6, 2) := by decide +kernel
theorem dX2_init_23 : decode cX2_init 23 = .ok (.newarray .int, 2) := by decide +kernel
theorem dX2_init_25 : decode cX2_init 25 = .ok (.putfield 18, 3) := by decide +kernel
theorem dX2_init_28 : decode cX2_init 28 = .ok (.aload_n 0, 1) := by decide +kernel
theorem dX2_init_29 : decode cX2_init 29 = .ok (.bipush 15, 2) := by decide +kernel
theorem dX2_init_31 : decode cX2_init 31 = .ok (.newarray .int, 2) := by decide +kernel
theorem dX2_init_33 : decode cX2_init 33 = .ok (.putfield 21, 3) := by decide +kernel
theorem dX2_init_36 : decode cX2_init 36 = .ok (.aload_n 0, 1) := by decide +kernel
theorem dX2_init_37 : decode cX2_init 37 = .ok (.bipush 15, 2) := by decide +kernel
theorem dX2_init_39 : decode cX2_init 39 = .ok (.newarray .int, 2) := by decide +kernel
theorem dX2_init_41 : decode cX2_init 41 = .ok (.putfield 24, 3) := by decide +kernel
theorem dX2_init_44 : decode cX2_init 44 = .ok (.return_, 1) := by decide +kernel
theorem dX2_empty_0 : decode cX2_empty 0 = .ok (.aload_n 0, 1) := by decide +kernel
theorem dX2_empty_1 : decode cX2_empty 1 = .ok (.iconst 0, 1) := by decide +kernel
theorem dX2_empty_2 : decode cX2_empty 2 = .ok (.putfield 27, 3) := by decide +kernel
theorem dX2_empty_5 : decode cX2_empty 5 = .ok (.aload_n 0, 1) := by decide +kernel
theorem dX2_empty_6 : decode cX2_empty 6 = .ok (.iconst 0, 1) := by decide +kernel
theorem dX2_empty_7 : decode cX2_empty 7 = .ok (.putfield 31, 3) := by decide +kernel
theorem dX2_empty_10 : decode cX2_empty 10 = .ok (.return_, 1) := by decide +kernel
theorem dX2_addSeen_0 : decode cX2_addSeen 0 = .ok (.aload_n 0, 1) := by decide +kernel
theorem dX2_addSeen_1 : decode cX2_addSeen 1 = .ok (.getfield 27, 3) := by decide +kernel
theorem dX2_addSeen_4 : decode cX2_addSeen 4 = .ok (.ifCond .lt 12, 3) := by decide +kernel
theorem dX2_addSeen_7 : decode cX2_addSeen 7 = .ok (.aload_n 0, 1) := by decide +kernel
theorem dX2_addSeen_8 : decode cX2_addSeen 8 = .ok (.getfield 27, 3) := by decide +kernel
theorem dX2_addSeen_11 : decode cX2_addSeen 11 = .ok (.bipush 6, 2) := by decide +kernel
theorem dX2_addSeen_13 : decode cX2_addSeen 13 = .ok (.if_icmp .lt 5, 3) := by decide +kernel
theorem dX2_addSeen_16 : decode cX2_addSeen 16 = .ok (.iconst 0, 1) := by decide +kernel
theorem dX2_addSeen_17 : decode cX2_addSeen 17 = .ok (.ireturn, 1) := by decide +kernel
theorem dX2_addSeen_18 : decode cX2_addSeen 18 = .ok (.aload_n 0, 1) := by decide +kernel
theorem dX2_addSeen_19 : decode cX2_addSeen 19 = .ok (.getfield 9, 3) := by decide +kernel
theorem dX2_addSeen_22 : decode cX2_addSeen 22 = .ok (.aload_n 0, 1) := by decide +kernel
theorem dX2_addSeen_23 : decode cX2_addSeen 23 = .ok (.getfield 27, 3) := by decide +kernel
theorem dX2_addSeen_26 : decode cX2_addSeen 26 = .ok (.iload_n 1, 1) := by decide +kernel
theorem dX2_addSeen_27 : decode cX2_addSeen 27 = .ok (.iastore, 1) := by decide +kernel
theorem dX2_addSeen_28 : decode cX2_addSeen 28 = .ok (.aload_n 0, 1) := by decide +kernel
theorem dX2_addSeen_29 : decode cX2_addSeen 29 = .ok (.getfield 15, 3) := by decide +kernel
theorem dX2_addSeen_32 : decode cX2_addSeen 32 = .ok (.aload_n 0, 1) := by decide +kernel
theorem dX2_addSeen_33 : decode cX2_addSeen 33 = .ok (.getfield 27, 3) := by decide +kernel
theorem dX2_addSeen_36 : decode cX2_addSeen 36 = .ok (.iload_n 2, 1) := by decide +kernel
theorem dX2_addSeen_37 : decode cX2_addSeen 37 = .ok (.iastore, 1) := by decide +kernel
theorem dX2_addSeen_38 : decode cX2_addSeen 38 = .ok (.aload_n 0, 1) := by decide +kernel
theorem dX2_addSeen_39 : decode cX2_addSeen 39 = .ok (.getfield 18, 3) := by decide +kernel
theorem dX2_addSeen_42 : decode cX2_addSeen 42 = .ok (.aload_n 0, 1) := by decide +kernel
theorem dX2_addSeen_43 : decode cX2_addSeen 43 = .ok (.getfield 27, 3) := by decide +kernel
theorem dX2_addSeen_46 : decode cX2_addSeen 46 = .ok (.iload_n 3, 1) := by decide +kernel
theorem dX2_addSeen_47 : decode cX2_addSeen 47 = .ok (.iastore, 1) := by decide +kernel
theorem dX2_addSeen_48 : decode cX2_addSeen 48 = .ok (.aload_n 0, 1) := by decide +kernel
theorem dX2_addSeen_49 : decode cX2_addSeen 49 = .ok (.dup, 1) := by decide +kernel
theorem dX2_addSeen_50 : decode cX2_addSeen 50 = .ok (.getfield 27, 3) := by decide +kernel
theorem dX2_addSeen_53 : decode cX2_addSeen 53 = .ok (.iconst 1, 1) := by decide +kernel
theorem dX2_addSeen_54 : decode cX2_addSeen 54 = .ok (.iadd, 1) := by decide +kernel
theorem dX2_addSeen_55 : decode cX2_addSeen 55 = .ok (.putfield 27, 3) := by decide +kernel
theorem dX2_addSeen_58 : decode cX2_addSeen 58 = .ok (.iconst 1, 1) := by decide +kernel
theorem dX2_addSeen_59 : decode cX2_addSeen 59 = .ok (.ireturn, 1) := by decide +kernel
theorem dX2_addWritten_0 : decode cX2_addWritten 0 = .ok (.aload_n 0, 1) := by decide +kernel
theorem dX2_addWritten_1 : decode cX2_addWritten 1 = .ok (.getfield 31, 3) := by decide +kernel
theorem dX2_addWritten_4 : decode cX2_addWritten 4 = .ok (.ifCond .lt 12, 3) := by decide +kernel
theorem dX2_addWritten_7 : decode cX2_addWritten 7 = .ok (.aload_n 0, 1) := by decide +kernel
theorem dX2_addWritten_8 : decode cX2_addWritten 8 = .ok (.getfield 31, 3) := by decide +kernel
theorem dX2_addWritten_11 : decode cX2_addWritten 11 = .ok (.bipush 15, 2) := by decide +kernel
theorem dX2_addWritten_13 : decode cX2_addWritten 13 = .ok (.if_icmp .lt 5, 3) := by decide +kernel
theorem dX2_addWritten_16 : decode cX2_addWritten 16 = .ok (.iconst 0, 1) := by decide +kernel
theorem dX2_addWritten_17 : decode cX2_addWritten 17 = .ok (.ireturn, 1) := by decide +kernel
theorem dX2_addWritten_18 : decode cX2_addWritten 18 = .ok (.aload_n 0, 1) := by decide +kernel
theorem dX2_addWritten_19 : decode cX2_addWritten 19 = .ok (.getfield 21, 3) := by decide +kernel
theorem dX2_addWritten_22 : decode cX2_addWritten 22 = .ok (.aload_n 0, 1) := by decide +kernel
theorem dX2_addWritten_23 : decode cX2_addWritten 23 = .ok (.getfield 31, 3) := by decide +kernel
theorem dX2_addWritten_26 : decode cX2_addWritten 26 = .ok (.iload_n 1, 1) := by decide +kernel
theorem dX2_addWritten_27 : decode cX2_addWritten 27 = .ok (.iastore, 1) := by decide +kernel
theorem dX2_addWritten_28 : decode cX2_addWritten 28 = .ok (.aload_n 0, 1) := by decide +kernel
theorem dX2_addWritten_29 : decode cX2_addWritten 29 = .ok (.getfield 24, 3) := by decide +kernel
theorem dX2_addWritten_32 : decode cX2_addWritten 32 = .ok (.aload_n 0, 1) := by decide +kernel
theorem dX2_addWritten_33 : decode cX2_addWritten 33 = .ok (.getfield 31, 3) := by decide +kernel
theorem dX2_addWritten_36 : decode cX2_addWritten 36 = .ok (.iload_n 2, 1) := by decide +kernel
theorem dX2_addWritten_37 : decode cX2_addWritten 37 = .ok (.iastore, 1) := by decide +kernel
theorem dX2_addWritten_38 : decode cX2_addWritten 38 = .ok (.aload_n 0, 1) := by decide +kernel
theorem dX2_addWritten_39 : decode cX2_addWritten 39 = .ok (.dup, 1) := by decide +kernel
theorem dX2_addWritten_40 : decode cX2_addWritten 40 = .ok (.getfield 31, 3) := by decide +kernel
theorem dX2_addWritten_43 : decode cX2_addWritten 43 = .ok (.iconst 1, 1) := by decide +kernel
theorem dX2_addWritten_44 : decode cX2_addWritten 44 = .ok (.iadd, 1) := by decide +kernel
theorem dX2_addWritten_45 : decode cX2_addWritten 45 = .ok (.putfield 31, 3) := by decide +kernel
theorem dX2_addWritten_48 : decode cX2_addWritten 48 = .ok (.iconst 1, 1) := by decide +kernel
theorem dX2_addWritten_49 : decode cX2_addWritten 49 = .ok (.ireturn, 1) := by decide +kernel
theorem dX2_entry_0 : decode cX2_entry 0 = .ok (.iload_n 1, 1) := by decide +kernel
theorem dX2_entry_1 : decode cX2_entry 1 = .ok (.ifCond .lt 14, 3) := by decide +kernel
theorem dX2_entry_4 : decode cX2_entry 4 = .ok (.iload_n 1, 1) := by decide +kernel
theorem dX2_entry_5 : decode cX2_entry 5 = .ok (.iload_n 2, 1) := by decide +kernel
theorem dX2_entry_6 : decode cX2_entry 6 = .ok (.if_icmp .ge 9, 3) := by decide +kernel
theorem dX2_entry_9 : decode cX2_entry 9 = .ok (.iload_n 1, 1) := by decide +kernel
theorem dX2_entry_10 : decode cX2_entry 10 = .ok (.aload_n 0, 1) := by decide +kernel
theorem dX2_entry_11 : decode cX2_entry 11 = .ok (.arraylength, 1) := by decide +kernel
theorem dX2_entry_12 : decode cX2_entry 12 = .ok (.if_icmp .lt 7, 3) := by decide +kernel
theorem dX2_entry_15 : decode cX2_entry 15 = .ok (.iconst (-1), 1) := by decide +kernel
theorem dX2_entry_16 : decode cX2_entry 16 = .ok (.goto 6, 3) := by decide +kernel
theorem dX2_entry_19 : decode cX2_entry 19 = .ok (.aload_n 0, 1) := by decide +kernel
theorem dX2_entry_20 : decode cX2_entry 20 = .ok (.iload_n 1, 1) := by decide +kernel
theorem dX2_entry_21 : decode cX2_entry 21 = .ok (.iaload, 1) := by decide +kernel
theorem dX2_entry_22 : decode cX2_entry 22 = .ok (.ireturn, 1) := by decide +kernel
theorem dX2_firstSeen_0 : decode cX2_firstSeen 0 = .ok (.aload_n 0, 1) := by decide +kernel
theorem dX2_firstSeen_1 : decode cX2_firstSeen 1 = .ok (.getfield 9, 3) := by decide +kernel
theorem dX2_firstSeen_4 : decode cX2_firstSeen 4 = .ok (.iload_n 1, 1) := by decide +kernel
theorem dX2_firstSeen_5 : decode cX2_firstSeen 5 = .ok (.aload_n 0, 1) := by decide +kernel
theorem dX2_firstSeen_6 : decode cX2_firstSeen 6 = .ok (.getfield 27, 3) := by decide +kernel
theorem dX2_firstSeen_9 : decode cX2_firstSeen 9 = .ok (.invokestatic 34, 3) := by decide +kernel
theorem dX2_firstSeen_12 : decode cX2_firstSeen 12 = .ok (.ireturn, 1) := by decide +kernel
theorem dX2_secondSeen_0 : decode cX2_secondSeen 0 = .ok (.aload_n 0, 1) := by decide +kernel
theorem dX2_secondSeen_1 : decode cX2_secondSeen 1 = .ok (.getfield 15, 3) := by decide +kernel
theorem dX2_secondSeen_4 : decode cX2_secondSeen 4 = .ok (.iload_n 1, 1) := by decide +kernel
theorem dX2_secondSeen_5 : decode cX2_secondSeen 5 = .ok (.aload_n 0, 1) := by decide +kernel
theorem dX2_secondSeen_6 : decode cX2_secondSeen 6 = .ok (.getfield 27, 3) := by decide +kernel
theorem dX2_secondSeen_9 : decode cX2_secondSeen 9 = .ok (.invokestatic 34, 3) := by decide +kernel
theorem dX2_secondSeen_12 : decode cX2_secondSeen 12 = .ok (.ireturn, 1) := by decide +kernel
theorem dX2_whoSeen_0 : decode cX2_whoSeen 0 = .ok (.aload_n 0, 1) := by decide +kernel
theorem dX2_whoSeen_1 : decode cX2_whoSeen 1 = .ok (.getfield 18, 3) := by decide +kernel
theorem dX2_whoSeen_4 : decode cX2_whoSeen 4 = .ok (.iload_n 1, 1) := by decide +kernel
theorem dX2_whoSeen_5 : decode cX2_whoSeen 5 = .ok (.aload_n 0, 1) := by decide +kernel
theorem dX2_whoSeen_6 : decode cX2_whoSeen 6 = .ok (.getfield 27, 3) := by decide +kernel
theorem dX2_whoSeen_9 : decode cX2_whoSeen 9 = .ok (.invokestatic 34, 3) := by decide +kernel
theorem dX2_whoSeen_12 : decode cX2_whoSeen 12 = .ok (.ireturn, 1) := by decide +kernel
theorem dX2_writtenPerson_0 : decode cX2_writtenPerson 0 = .ok (.aload_n 0, 1) := by decide +kernel
theorem dX2_writtenPerson_1 : decode cX2_writtenPerson 1 = .ok (.getfield 21, 3) := by decide +kernel
theorem dX2_writtenPerson_4 : decode cX2_writtenPerson 4 = .ok (.iload_n 1, 1) := by decide +kernel
theorem dX2_writtenPerson_5 : decode cX2_writtenPerson 5 = .ok (.aload_n 0, 1) := by decide +kernel
theorem dX2_writtenPerson_6 : decode cX2_writtenPerson 6 = .ok (.getfield 31, 3) := by decide +kernel
theorem dX2_writtenPerson_9 : decode cX2_writtenPerson 9 = .ok (.invokestatic 34, 3) := by decide +kernel
theorem dX2_writtenPerson_12 : decode cX2_writtenPerson 12 = .ok (.ireturn, 1) := by decide +kernel
theorem dX2_writtenCard_0 : decode cX2_writtenCard 0 = .ok (.aload_n 0, 1) := by decide +kernel
theorem dX2_writtenCard_1 : decode cX2_writtenCard 1 = .ok (.getfield 24, 3) := by decide +kernel
theorem dX2_writtenCard_4 : decode cX2_writtenCard 4 = .ok (.iload_n 1, 1) := by decide +kernel
theorem dX2_writtenCard_5 : decode cX2_writtenCard 5 = .ok (.aload_n 0, 1) := by decide +kernel
theorem dX2_writtenCard_6 : decode cX2_writtenCard 6 = .ok (.getfield 31, 3) := by decide +kernel
theorem dX2_writtenCard_9 : decode cX2_writtenCard 9 = .ok (.invokestatic 34, 3) := by decide +kernel
theorem dX2_writtenCard_12 : decode cX2_writtenCard 12 = .ok (.ireturn, 1) := by decide +kernel
theorem dX3_init_0 : decode cX3_init 0 = .ok (.aload_n 0, 1) := by decide +kernel
theorem dX3_init_1 : decode cX3_init 1 = .ok (.invokespecial 3, 3) := by decide +kernel
theorem dX3_init_4 : decode cX3_init 4 = .ok (.aload_n 0, 1) := by decide +kernel
theorem dX3_init_5 : decode cX3_init 5 = .ok (.bipush 16, 2) := by decide +kernel
theorem dX3_init_7 : decode cX3_init 7 = .ok (.anewarray 9, 3) := by decide +kernel
theorem dX3_init_10 : decode cX3_init 10 = .ok (.putfield 11, 3) := by decide +kernel
theorem dX3_init_13 : decode cX3_init 13 = .ok (.iconst 0, 1) := by decide +kernel
theorem dX3_init_14 : decode cX3_init 14 = .ok (.istore_n 1, 1) := by decide +kernel
theorem dX3_init_15 : decode cX3_init 15 = .ok (.iload_n 1, 1) := by decide +kernel
theorem dX3_init_16 : decode cX3_init 16 = .ok (.bipush 16, 2) := by decide +kernel
theorem dX3_init_18 : decode cX3_init 18 = .ok (.if_icmp .ge 22, 3) := by decide +kernel
theorem dX3_init_21 : decode cX3_init 21 = .ok (.aload_n 0, 1) := by decide +kernel
theorem dX3_init_22 : decode cX3_init 22 = .ok (.getfield 11, 3) := by decide +kernel
theorem dX3_init_25 : decode cX3_init 25 = .ok (.iload_n 1, 1) := by decide +kernel
theorem dX3_init_26 : decode cX3_init 26 = .ok (.new 9, 3) := by decide +kernel
theorem dX3_init_29 : decode cX3_init 29 = .ok (.dup, 1) := by decide +kernel
theorem dX3_init_30 : decode cX3_init 30 = .ok (.invokespecial 17, 3) := by decide +kernel
theorem dX3_init_33 : decode cX3_init 33 = .ok (.aastore, 1) := by decide +kernel
theorem dX3_init_34 : decode cX3_init 34 = .ok (.iinc 1 1, 3) := by decide +kernel
theorem dX3_init_37 : decode cX3_init 37 = .ok (.goto (-22), 3) := by decide +kernel
theorem dX3_init_40 : decode cX3_init 40 = .ok (.return_, 1) := by decide +kernel
theorem dX3_forget_0 : decode cX3_forget 0 = .ok (.aload_n 0, 1) := by decide +kernel
theorem dX3_forget_1 : decode cX3_forget 1 = .ok (.iconst 0, 1) := by decide +kernel
theorem dX3_forget_2 : decode cX3_forget 2 = .ok (.putfield 18, 3) := by decide +kernel
theorem dX3_forget_5 : decode cX3_forget 5 = .ok (.return_, 1) := by decide +kernel
theorem dX3_push_0 : decode cX3_push 0 = .ok (.aload_n 0, 1) := by decide +kernel
theorem dX3_push_1 : decode cX3_push 1 = .ok (.aload_n 0, 1) := by decide +kernel
theorem dX3_push_2 : decode cX3_push 2 = .ok (.getfield 22, 3) := by decide +kernel
theorem dX3_push_5 : decode cX3_push 5 = .ok (.bipush 16, 2) := by decide +kernel
theorem dX3_push_7 : decode cX3_push 7 = .ok (.invokestatic 25, 3) := by decide +kernel
theorem dX3_push_10 : decode cX3_push 10 = .ok (.putfield 22, 3) := by decide +kernel
theorem dX3_push_13 : decode cX3_push 13 = .ok (.aload_n 0, 1) := by decide +kernel
theorem dX3_push_14 : decode cX3_push 14 = .ok (.getfield 11, 3) := by decide +kernel
theorem dX3_push_17 : decode cX3_push 17 = .ok (.aload_n 0, 1) := by decide +kernel
theorem dX3_push_18 : decode cX3_push 18 = .ok (.getfield 22, 3) := by decide +kernel
theorem dX3_push_21 : decode cX3_push 21 = .ok (.aaload, 1) := by decide +kernel
theorem dX3_push_22 : decode cX3_push 22 = .ok (.aload_n 1, 1) := by decide +kernel
theorem dX3_push_23 : decode cX3_push 23 = .ok (.invokevirtual 31, 3) := by decide +kernel
theorem dX3_push_26 : decode cX3_push 26 = .ok (.aload_n 0, 1) := by decide +kernel
theorem dX3_push_27 : decode cX3_push 27 = .ok (.aload_n 0, 1) := by decide +kernel
theorem dX3_push_28 : decode cX3_push 28 = .ok (.getfield 22, 3) := by decide +kernel
theorem dX3_push_31 : decode cX3_push 31 = .ok (.iconst 1, 1) := by decide +kernel
theorem dX3_push_32 : decode cX3_push 32 = .ok (.iadd, 1) := by decide +kernel
theorem dX3_push_33 : decode cX3_push 33 = .ok (.bipush 16, 2) := by decide +kernel
theorem dX3_push_35 : decode cX3_push 35 = .ok (.irem, 1) := by decide +kernel
theorem dX3_push_36 : decode cX3_push 36 = .ok (.putfield 22, 3) := by decide +kernel
theorem dX3_push_39 : decode cX3_push 39 = .ok (.aload_n 0, 1) := by decide +kernel
theorem dX3_push_40 : decode cX3_push 40 = .ok (.aload_n 0, 1) := by decide +kernel
theorem dX3_push_41 : decode cX3_push 41 = .ok (.getfield 18, 3) := by decide +kernel
theorem dX3_push_44 : decode cX3_push 44 = .ok (.iconst 1, 1) := by decide +kernel
theorem dX3_push_45 : decode cX3_push 45 = .ok (.iadd, 1) := by decide +kernel
theorem dX3_push_46 : decode cX3_push 46 = .ok (.bipush 16, 2) := by decide +kernel
theorem dX3_push_48 : decode cX3_push 48 = .ok (.invokestatic 35, 3) := by decide +kernel
theorem dX3_push_51 : decode cX3_push 51 = .ok (.putfield 18, 3) := by decide +kernel
theorem dX3_push_54 : decode cX3_push 54 = .ok (.return_, 1) := by decide +kernel
theorem dX3_pop_0 : decode cX3_pop 0 = .ok (.aload_n 0, 1) := by decide +kernel
theorem dX3_pop_1 : decode cX3_pop 1 = .ok (.getfield 18, 3) := by decide +kernel
theorem dX3_pop_4 : decode cX3_pop 4 = .ok (.ifCond .le 41, 3) := by decide +kernel
theorem dX3_pop_7 : decode cX3_pop 7 = .ok (.aload_n 0, 1) := by decide +kernel
theorem dX3_pop_8 : decode cX3_pop 8 = .ok (.aload_n 0, 1) := by decide +kernel
theorem dX3_pop_9 : decode cX3_pop 9 = .ok (.getfield 22, 3) := by decide +kernel
theorem dX3_pop_12 : decode cX3_pop 12 = .ok (.iconst 1, 1) := by decide +kernel
theorem dX3_pop_13 : decode cX3_pop 13 = .ok (.isub, 1) := by decide +kernel
theorem dX3_pop_14 : decode cX3_pop 14 = .ok (.bipush 16, 2) := by decide +kernel
theorem dX3_pop_16 : decode cX3_pop 16 = .ok (.invokestatic 25, 3) := by decide +kernel
theorem dX3_pop_19 : decode cX3_pop 19 = .ok (.putfield 22, 3) := by decide +kernel
theorem dX3_pop_22 : decode cX3_pop 22 = .ok (.aload_n 1, 1) := by decide +kernel
theorem dX3_pop_23 : decode cX3_pop 23 = .ok (.aload_n 0, 1) := by decide +kernel
theorem dX3_pop_24 : decode cX3_pop 24 = .ok (.getfield 11, 3) := by decide +kernel
theorem dX3_pop_27 : decode cX3_pop 27 = .ok (.aload_n 0, 1) := by decide +kernel
theorem dX3_pop_28 : decode cX3_pop 28 = .ok (.getfield 22, 3) := by decide +kernel
theorem dX3_pop_31 : decode cX3_pop 31 = .ok (.aaload, 1) := by decide +kernel
theorem dX3_pop_32 : decode cX3_pop 32 = .ok (.invokevirtual 31, 3) := by decide +kernel
theorem dX3_pop_35 : decode cX3_pop 35 = .ok (.aload_n 0, 1) := by decide +kernel
theorem dX3_pop_36 : decode cX3_pop 36 = .ok (.dup, 1) := by decide +kernel
theorem dX3_pop_37 : decode cX3_pop 37 = .ok (.getfield 18, 3) := by decide +kernel
theorem dX3_pop_40 : decode cX3_pop 40 = .ok (.iconst 1, 1) := by decide +kernel
theorem dX3_pop_41 : decode cX3_pop 41 = .ok (.isub, 1) := by decide +kernel
theorem dX3_pop_42 : decode cX3_pop 42 = .ok (.putfield 18, 3) := by decide +kernel
theorem dX3_pop_45 : decode cX3_pop 45 = .ok (.return_, 1) := by decide +kernel
theorem dX4_init_0 : decode cX4_init 0 = .ok (.aload_n 0, 1) := by decide +kernel
theorem dX4_init_1 : decode cX4_init 1 = .ok (.invokespecial 3, 3) := by decide +kernel
theorem dX4_init_4 : decode cX4_init 4 = .ok (.aload_n 0, 1) := by decide +kernel
theorem dX4_init_5 : decode cX4_init 5 = .ok (.bipush 12, 2) := by decide +kernel
theorem dX4_init_7 : decode cX4_init 7 = .ok (.newarray .int, 2) := by decide +kernel
theorem dX4_init_9 : decode cX4_init 9 = .ok (.putfield 9, 3) := by decide +kernel
theorem dX4_init_12 : decode cX4_init 12 = .ok (.aload_n 0, 1) := by decide +kernel
theorem dX4_init_13 : decode cX4_init 13 = .ok (.bipush 6, 2) := by decide +kernel
theorem dX4_init_15 : decode cX4_init 15 = .ok (.newarray .int, 2) := by decide +kernel
theorem dX4_init_17 : decode cX4_init 17 = .ok (.putfield 15, 3) := by decide +kernel
theorem dX4_init_20 : decode cX4_init 20 = .ok (.aload_n 0, 1) := by decide +kernel
theorem dX4_init_21 : decode cX4_init 21 = .ok (.bipush 6, 2) := by decide +kernel
theorem dX4_init_23 : decode cX4_init 23 = .ok (.newarray .int, 2) := by decide +kernel
theorem dX4_init_25 : decode cX4_init 25 = .ok (.putfield 18, 3) := by decide +kernel
theorem dX4_init_28 : decode cX4_init 28 = .ok (.aload_n 0, 1) := by decide +kernel
theorem dX4_init_29 : decode cX4_init 29 = .ok (.bipush 24, 2) := by decide +kernel
theorem dX4_init_31 : decode cX4_init 31 = .ok (.newarray .int, 2) := by decide +kernel
theorem dX4_init_33 : decode cX4_init 33 = .ok (.putfield 21, 3) := by decide +kernel
theorem dX4_init_36 : decode cX4_init 36 = .ok (.aload_n 0, 1) := by decide +kernel
theorem dX4_init_37 : decode cX4_init 37 = .ok (.getfield 15, 3) := by decide +kernel
theorem dX4_init_40 : decode cX4_init 40 = .ok (.iconst (-1), 1) := by decide +kernel
theorem dX4_init_41 : decode cX4_init 41 = .ok (.invokestatic 24, 3) := by decide +kernel
theorem dX4_init_44 : decode cX4_init 44 = .ok (.return_, 1) := by decide +kernel
theorem dX4_begin_0 : decode cX4_begin 0 = .ok (.aload_n 0, 1) := by decide +kernel
theorem dX4_begin_1 : decode cX4_begin 1 = .ok (.iload_n 1, 1) := by decide +kernel
theorem dX4_begin_2 : decode cX4_begin 2 = .ok (.bipush 12, 2) := by decide +kernel
theorem dX4_begin_4 : decode cX4_begin 4 = .ok (.invokestatic 30, 3) := by decide +kernel
theorem dX4_begin_7 : decode cX4_begin 7 = .ok (.putfield 36, 3) := by decide +kernel
theorem dX4_begin_10 : decode cX4_begin 10 = .ok (.iconst 0, 1) := by decide +kernel
theorem dX4_begin_11 : decode cX4_begin 11 = .ok (.istore_n 2, 1) := by decide +kernel
theorem dX4_begin_12 : decode cX4_begin 12 = .ok (.iload_n 2, 1) := by decide +kernel
theorem dX4_begin_13 : decode cX4_begin 13 = .ok (.bipush 12, 2) := by decide +kernel
theorem dX4_begin_15 : decode cX4_begin 15 = .ok (.if_icmp .ge 16, 3) := by decide +kernel
theorem dX4_begin_18 : decode cX4_begin 18 = .ok (.aload_n 0, 1) := by decide +kernel
theorem dX4_begin_19 : decode cX4_begin 19 = .ok (.getfield 9, 3) := by decide +kernel
theorem dX4_begin_22 : decode cX4_begin 22 = .ok (.iload_n 2, 1) := by decide +kernel
theorem dX4_begin_23 : decode cX4_begin 23 = .ok (.iload_n 2, 1) := by decide +kernel
theorem dX4_begin_24 : decode cX4_begin 24 = .ok (.iastore, 1) := by decide +kernel
theorem dX4_begin_25 : decode cX4_begin 25 = .ok (.iinc 2 1, 3) := by decide +kernel
theorem dX4_begin_28 : decode cX4_begin 28 = .ok (.goto (-16), 3) := by decide +kernel
theorem dX4_begin_31 : decode cX4_begin 31 = .ok (.aload_n 0, 1) := by decide +kernel
theorem dX4_begin_32 : decode cX4_begin 32 = .ok (.iconst 0, 1) := by decide +kernel
theorem dX4_begin_33 : decode cX4_begin 33 = .ok (.putfield 40, 3) := by decide +kernel
theorem dX4_begin_36 : decode cX4_begin 36 = .ok (.aload_n 0, 1) := by decide +kernel
theorem dX4_begin_37 : decode cX4_begin 37 = .ok (.iconst 0, 1) := by decide +kernel
theorem dX4_begin_38 : decode cX4_begin 38 = .ok (.putfield 43, 3) := by decide +kernel
theorem dX4_begin_41 : decode cX4_begin 41 = .ok (.aload_n 0, 1) := by decide +kernel
theorem dX4_begin_42 : decode cX4_begin 42 = .ok (.getfield 15, 3) := by decide +kernel
theorem dX4_begin_45 : decode cX4_begin 45 = .ok (.iconst (-1), 1) := by decide +kernel
theorem dX4_begin_46 : decode cX4_begin 46 = .ok (.invokestatic 24, 3) := by decide +kernel
theorem dX4_begin_49 : decode cX4_begin 49 = .ok (.aload_n 0, 1) := by decide +kernel
theorem dX4_begin_50 : decode cX4_begin 50 = .ok (.getfield 18, 3) := by decide +kernel
theorem dX4_begin_53 : decode cX4_begin 53 = .ok (.iconst 0, 1) := by decide +kernel
theorem dX4_begin_54 : decode cX4_begin 54 = .ok (.invokestatic 24, 3) := by decide +kernel
theorem dX4_begin_57 : decode cX4_begin 57 = .ok (.return_, 1) := by decide +kernel
theorem dX4_become_0 : decode cX4_become 0 = .ok (.aload_n 0, 1) := by decide +kernel
theorem dX4_become_1 : decode cX4_become 1 = .ok (.aload_n 1, 1) := by decide +kernel
theorem dX4_become_2 : decode cX4_become 2 = .ok (.getfield 36, 3) := by decide +kernel
theorem dX4_become_5 : decode cX4_become 5 = .ok (.putfield 36, 3) := by decide +kernel
theorem dX4_become_8 : decode cX4_become 8 = .ok (.aload_n 0, 1) := by decide +kernel
theorem dX4_become_9 : decode cX4_become 9 = .ok (.aload_n 1, 1) := by decide +kernel
theorem dX4_become_10 : decode cX4_become 10 = .ok (.getfield 40, 3) := by decide +kernel
theorem dX4_become_13 : decode cX4_become 13 = .ok (.putfield 40, 3) := by decide +kernel
theorem dX4_become_16 : decode cX4_become 16 = .ok (.aload_n 0, 1) := by decide +kernel
theorem dX4_become_17 : decode cX4_become 17 = .ok (.aload_n 1, 1) := by decide +kernel
theorem dX4_become_18 : decode cX4_become 18 = .ok (.getfield 43, 3) := by decide +kernel
theorem dX4_become_21 : decode cX4_become 21 = .ok (.putfield 43, 3) := by decide +kernel
theorem dX4_become_24 : decode cX4_become 24 = .ok (.aload_n 1, 1) := by decide +kernel
theorem dX4_become_25 : decode cX4_become 25 = .ok (.getfield 9, 3) := by decide +kernel
theorem dX4_become_28 : decode cX4_become 28 = .ok (.iconst 0, 1) := by decide +kernel
theorem dX4_become_29 : decode cX4_become 29 = .ok (.aload_n 0, 1) := by decide +kernel
theorem dX4_become_30 : decode cX4_become 30 = .ok (.getfield 9, 3) := by decide +kernel
theorem dX4_become_33 : decode cX4_become 33 = .ok (.iconst 0, 1) := by decide +kernel
theorem dX4_become_34 : decode cX4_become 34 = .ok (.bipush 12, 2) := by decide +kernel
theorem dX4_become_36 : decode cX4_become 36 = .ok (.invokestatic 46, 3) := by decide +kernel
theorem dX4_become_39 : decode cX4_become 39 = .ok (.aload_n 1, 1) := by decide +kernel
theorem dX4_become_40 : decode cX4_become 40 = .ok (.getfield 15, 3) := by decide +kernel
theorem dX4_become_43 : decode cX4_become 43 = .ok (.iconst 0, 1) := by decide +kernel
theorem dX4_become_44 : decode cX4_become 44 = .ok (.aload_n 0, 1) := by decide +kernel
theorem dX4_become_45 : decode cX4_become 45 = .ok (.getfield 15, 3) := by decide +kernel
theorem dX4_become_48 : decode cX4_become 48 = .ok (.iconst 0, 1) := by decide +kernel
theorem dX4_become_49 : decode cX4_become 49 = .ok (.bipush 6, 2) := by decide +kernel
theorem dX4_become_51 : decode cX4_become 51 = .ok (.invokestatic 46, 3) := by decide +kernel
theorem dX4_become_54 : decode cX4_become 54 = .ok (.aload_n 1, 1) := by decide +kernel
theorem dX4_become_55 : decode cX4_become 55 = .ok (.getfield 18, 3) := by decide +kernel
theorem dX4_become_58 : decode cX4_become 58 = .ok (.iconst 0, 1) := by decide +kernel
theorem dX4_become_59 : decode cX4_become 59 = .ok (.aload_n 0, 1) := by decide +kernel
theorem dX4_become_60 : decode cX4_become 60 = .ok (.getfield 18, 3) := by decide +kernel
theorem dX4_become_63 : decode cX4_become 63 = .ok (.iconst 0, 1) := by decide +kernel
theorem dX4_become_64 : decode cX4_become 64 = .ok (.bipush 6, 2) := by decide +kernel
theorem dX4_become_66 : decode cX4_become 66 = .ok (.invokestatic 46, 3) := by decide +kernel
theorem dX4_become_69 : decode cX4_become 69 = .ok (.aload_n 1, 1) := by decide +kernel
theorem dX4_become_70 : decode cX4_become 70 = .ok (.getfield 21, 3) := by decide +kernel
theorem dX4_become_73 : decode cX4_become 73 = .ok (.iconst 0, 1) := by decide +kernel
theorem dX4_become_74 : decode cX4_become 74 = .ok (.aload_n 0, 1) := by decide +kernel
theorem dX4_become_75 : decode cX4_become 75 = .ok (.getfield 21, 3) := by decide +kernel
theorem dX4_become_78 : decode cX4_become 78 = .ok (.iconst 0, 1) := by decide +kernel
theorem dX4_become_79 : decode cX4_become 79 = .ok (.bipush 24, 2) := by decide +kernel
theorem dX4_become_81 : decode cX4_become 81 = .ok (.invokestatic 46, 3) := by decide +kernel
theorem dX4_become_84 : decode cX4_become 84 = .ok (.return_, 1) := by decide +kernel
theorem dX4_isPerson_0 : decode cX4_isPerson 0 = .ok (.iload_n 0, 1) := by decide +kernel
theorem dX4_isPerson_1 : decode cX4_isPerson 1 = .ok (.ifCond .lt 13, 3) := by decide +kernel
theorem dX4_isPerson_4 : decode cX4_isPerson 4 = .ok (.iload_n 0, 1) := by decide +kernel
theorem dX4_isPerson_5 : decode cX4_isPerson 5 = .ok (.bipush 6, 2) := by decide +kernel
theorem dX4_isPerson_7 : decode cX4_isPerson 7 = .ok (.if_icmp .ge 7, 3) := by decide +kernel
theorem dX4_isPerson_10 : decode cX4_isPerson 10 = .ok (.iconst 1, 1) := by decide +kernel
theorem dX4_isPerson_11 : decode cX4_isPerson 11 = .ok (.goto 4, 3) := by decide +kernel
theorem dX4_isPerson_14 : decode cX4_isPerson 14 = .ok (.iconst 0, 1) := by decide +kernel
theorem dX4_isPerson_15 : decode cX4_isPerson 15 = .ok (.ireturn, 1) := by decide +kernel
theorem dX4_cardOf_0 : decode cX4_cardOf 0 = .ok (.iload_n 1, 1) := by decide +kernel
theorem dX4_cardOf_1 : decode cX4_cardOf 1 = .ok (.invokestatic 52, 3) := by decide +kernel
theorem dX4_cardOf_4 : decode cX4_cardOf 4 = .ok (.ifCond .eq 12, 3) := by decide +kernel
theorem dX4_cardOf_7 : decode cX4_cardOf 7 = .ok (.aload_n 0, 1) := by decide +kernel
theorem dX4_cardOf_8 : decode cX4_cardOf 8 = .ok (.getfield 15, 3) := by decide +kernel
theorem dX4_cardOf_11 : decode cX4_cardOf 11 = .ok (.iload_n 1, 1) := by decide +kernel
theorem dX4_cardOf_12 : decode cX4_cardOf 12 = .ok (.iaload, 1) := by decide +kernel
theorem dX4_cardOf_13 : decode cX4_cardOf 13 = .ok (.goto 4, 3) := by decide +kernel
theorem dX4_cardOf_16 : decode cX4_cardOf 16 = .ok (.iconst (-1), 1) := by decide +kernel
theorem dX4_cardOf_17 : decode cX4_cardOf 17 = .ok (.ireturn, 1) := by decide +kernel
theorem dX4_winsOf_0 : decode cX4_winsOf 0 = .ok (.iload_n 1, 1) := by decide +kernel
theorem dX4_winsOf_1 : decode cX4_winsOf 1 = .ok (.invokestatic 52, 3) := by decide +kernel
theorem dX4_winsOf_4 : decode cX4_winsOf 4 = .ok (.ifCond .eq 12, 3) := by decide +kernel
theorem dX4_winsOf_7 : decode cX4_winsOf 7 = .ok (.aload_n 0, 1) := by decide +kernel
theorem dX4_winsOf_8 : decode cX4_winsOf 8 = .ok (.getfield 18, 3) := by decide +kernel
theorem dX4_winsOf_11 : decode cX4_winsOf 11 = .ok (.iload_n 1, 1) := by decide +kernel
theorem dX4_winsOf_12 : decode cX4_winsOf 12 = .ok (.iaload, 1) := by decide +kernel
theorem dX4_winsOf_13 : decode cX4_winsOf 13 = .ok (.goto 4, 3) := by decide +kernel
theorem dX4_winsOf_16 : decode cX4_winsOf 16 = .ok (.iconst 0, 1) := by decide +kernel
theorem dX4_winsOf_17 : decode cX4_winsOf 17 = .ok (.ireturn, 1) := by decide +kernel
theorem dX4_cardAt_0 : decode cX4_cardAt 0 = .ok (.iload_n 1, 1) := by decide +kernel
theorem dX4_cardAt_1 : decode cX4_cardAt 1 = .ok (.ifCond .lt 17, 3) := by decide +kernel
theorem dX4_cardAt_4 : decode cX4_cardAt 4 = .ok (.iload_n 1, 1) := by decide +kernel
theorem dX4_cardAt_5 : decode cX4_cardAt 5 = .ok (.aload_n 0, 1) := by decide +kernel
theorem dX4_cardAt_6 : decode cX4_cardAt 6 = .ok (.getfield 36, 3) := by decide +kernel
theorem dX4_cardAt_9 : decode cX4_cardAt 9 = .ok (.if_icmp .ge 9, 3) := by decide +kernel
theorem dX4_cardAt_12 : decode cX4_cardAt 12 = .ok (.iload_n 1, 1) := by decide +kernel
theorem dX4_cardAt_13 : decode cX4_cardAt 13 = .ok (.bipush 12, 2) := by decide +kernel
theorem dX4_cardAt_15 : decode cX4_cardAt 15 = .ok (.if_icmp .lt 7, 3) := by decide +kernel
theorem dX4_cardAt_18 : decode cX4_cardAt 18 = .ok (.iconst (-1), 1) := by decide +kernel
theorem dX4_cardAt_19 : decode cX4_cardAt 19 = .ok (.goto 9, 3) := by decide +kernel
theorem dX4_cardAt_22 : decode cX4_cardAt 22 = .ok (.aload_n 0, 1) := by decide +kernel
theorem dX4_cardAt_23 : decode cX4_cardAt 23 = .ok (.getfield 9, 3) := by decide +kernel
theorem dX4_cardAt_26 : decode cX4_cardAt 26 = .ok (.iload_n 1, 1) := by decide +kernel
theorem dX4_cardAt_27 : decode cX4_cardAt 27 = .ok (.iaload, 1) := by decide +kernel
theorem dX4_cardAt_28 : decode cX4_cardAt 28 = .ok (.ireturn, 1) := by decide +kernel
theorem dX4_placeOf_0 : decode cX4_placeOf 0 = .ok (.iconst 0, 1) := by decide +kernel
theorem dX4_placeOf_1 : decode cX4_placeOf 1 = .ok (.istore_n 2, 1) := by decide +kernel
theorem dX4_placeOf_2 : decode cX4_placeOf 2 = .ok (.iload_n 2, 1) := by decide +kernel
theorem dX4_placeOf_3 : decode cX4_placeOf 3 = .ok (.aload_n 0, 1) := by decide +kernel
theorem dX4_placeOf_4 : decode cX4_placeOf 4 = .ok (.getfield 36, 3) := by decide +kernel
theorem dX4_placeOf_7 : decode cX4_placeOf 7 = .ok (.if_icmp .ge 20, 3) := by decide +kernel
theorem dX4_placeOf_10 : decode cX4_placeOf 10 = .ok (.aload_n 0, 1) := by decide +kernel
theorem dX4_placeOf_11 : decode cX4_placeOf 11 = .ok (.iload_n 2, 1) := by decide +kernel
theorem dX4_placeOf_12 : decode cX4_placeOf 12 = .ok (.invokevirtual 56, 3) := by decide +kernel
theorem dX4_placeOf_15 : decode cX4_placeOf 15 = .ok (.iload_n 1, 1) := by decide +kernel
theorem dX4_placeOf_16 : decode cX4_placeOf 16 = .ok (.if_icmp .ne 5, 3) := by decide +kernel
theorem dX4_placeOf_19 : decode cX4_placeOf 19 = .ok (.iload_n 2, 1) := by decide +kernel
theorem dX4_placeOf_20 : decode cX4_placeOf 20 = .ok (.ireturn, 1) := by decide +kernel
theorem dX4_placeOf_21 : decode cX4_placeOf 21 = .ok (.iinc 2 1, 3) := by decide +kernel
theorem dX4_placeOf_24 : decode cX4_placeOf 24 = .ok (.goto (-22), 3) := by decide +kernel
theorem dX4_placeOf_27 : decode cX4_placeOf 27 = .ok (.iconst (-1), 1) := by decide +kernel
theorem dX4_placeOf_28 : decode cX4_placeOf 28 = .ok (.ireturn, 1) := by decide +kernel
theorem dX4_holderOf_0 : decode cX4_holderOf 0 = .ok (.iconst 0, 1) := by decide +kernel
theorem dX4_holderOf_1 : decode cX4_holderOf 1 = .ok (.istore_n 2, 1) := by decide +kernel
theorem dX4_holderOf_2 : decode cX4_holderOf 2 = .ok (.iload_n 2, 1) := by decide +kernel
theorem dX4_holderOf_3 : decode cX4_holderOf 3 = .ok (.bipush 6, 2) := by decide +kernel
theorem dX4_holderOf_5 : decode cX4_holderOf 5 = .ok (.if_icmp .ge 21, 3) := by decide +kernel
theorem dX4_holderOf_8 : decode cX4_holderOf 8 = .ok (.aload_n 0, 1) := by decide +kernel
theorem dX4_holderOf_9 : decode cX4_holderOf 9 = .ok (.getfield 15, 3) := by decide +kernel
theorem dX4_holderOf_12 : decode cX4_holderOf 12 = .ok (.iload_n 2, 1) := by decide +kernel
theorem dX4_holderOf_13 : decode cX4_holderOf 13 = .ok (.iaload, 1) := by decide +kernel
theorem dX4_holderOf_14 : decode cX4_holderOf 14 = .ok (.iload_n 1, 1) := by decide +kernel
theorem dX4_holderOf_15 : decode cX4_holderOf 15 = .ok (.if_icmp .ne 5, 3) := by decide +kernel
theorem dX4_holderOf_18 : decode cX4_holderOf 18 = .ok (.iload_n 2, 1) := by decide +kernel
theorem dX4_holderOf_19 : decode cX4_holderOf 19 = .ok (.ireturn, 1) := by decide +kernel
theorem dX4_holderOf_20 : decode cX4_holderOf 20 = .ok (.iinc 2 1, 3) := by decide +kernel
theorem dX4_holderOf_23 : decode cX4_holderOf 23 = .ok (.goto (-21), 3) := by decide +kernel
theorem dX4_holderOf_26 : decode cX4_holderOf 26 = .ok (.iconst (-1), 1) := by decide +kernel
theorem dX4_holderOf_27 : decode cX4_holderOf 27 = .ok (.ireturn, 1) := by decide +kernel
theorem dX4_holders_0 : decode cX4_holders 0 = .ok (.iconst 0, 1) := by decide +kernel
theorem dX4_holders_1 : decode cX4_holders 1 = .ok (.istore_n 1, 1) := by decide +kernel
theorem dX4_holders_2 : decode cX4_holders 2 = .ok (.iconst 0, 1) := by decide +kernel
theorem dX4_holders_3 : decode cX4_holders 3 = .ok (.istore_n 2, 1) := by decide +kernel
theorem dX4_holders_4 : decode cX4_holders 4 = .ok (.iload_n 2, 1) := by decide +kernel
theorem dX4_holders_5 : decode cX4_holders 5 = .ok (.bipush 6, 2) := by decide +kernel
theorem dX4_holders_7 : decode cX4_holders 7 = .ok (.if_icmp .ge 25, 3) := by decide +kernel
theorem dX4_holders_10 : decode cX4_holders 10 = .ok (.aload_n 0, 1) := by decide +kernel
theorem dX4_holders_11 : decode cX4_holders 11 = .ok (.getfield 15, 3) := by decide +kernel
theorem dX4_holders_14 : decode cX4_holders 14 = .ok (.iload_n 2, 1) := by decide +kernel
theorem dX4_holders_15 : decode cX4_holders 15 = .ok (.iaload, 1) := by decide +kernel
theorem dX4_holders_16 : decode cX4_holders 16 = .ok (.iconst (-1), 1) := by decide +kernel
theorem dX4_holders_17 : decode cX4_holders 17 = .ok (.if_icmp .eq 9, 3) := by decide +kernel
theorem dX4_holders_20 : decode cX4_holders 20 = .ok (.iload_n 1, 1) := by decide +kernel
theorem dX4_holders_21 : decode cX4_holders 21 = .ok (.iconst 1, 1) := by decide +kernel
theorem dX4_holders_22 : decode cX4_holders 22 = .ok (.iload_n 2, 1) := by decide +kernel
theorem dX4_holders_23 : decode cX4_holders 23 = .ok (.ishl, 1) := by decide +kernel
theorem dX4_holders_24 : decode cX4_holders 24 = .ok (.ior, 1) := by decide +kernel
theorem dX4_holders_25 : decode cX4_holders 25 = .ok (.istore_n 1, 1) := by decide +kernel
theorem dX4_holders_26 : decode cX4_holders 26 = .ok (.iinc 2 1, 3) := by decide +kernel
theorem dX4_holders_29 : decode cX4_holders 29 = .ok (.goto (-25), 3) := by decide +kernel
theorem dX4_holders_32 : decode cX4_holders 32 = .ok (.iload_n 1, 1) := by decide +kernel
theorem dX4_holders_33 : decode cX4_holders 33 = .ok (.ireturn, 1) := by decide +kernel
theorem dX4_canDraw_0 : decode cX4_canDraw 0 = .ok (.iload_n 1, 1) := by decide +kernel
theorem dX4_canDraw_1 : decode cX4_canDraw 1 = .ok (.invokestatic 52, 3) := by decide +kernel
theorem dX4_canDraw_4 : decode cX4_canDraw 4 = .ok (.ifCond .eq 24, 3) := by decide +kernel
theorem dX4_canDraw_7 : decode cX4_canDraw 7 = .ok (.aload_n 0, 1) := by decide +kernel
theorem dX4_canDraw_8 : decode cX4_canDraw 8 = .ok (.getfield 15, 3) := by decide +kernel
theorem dX4_canDraw_11 : decode cX4_canDraw 11 = .ok (.iload_n 1, 1) := by decide +kernel
theorem dX4_canDraw_12 : decode cX4_canDraw 12 = .ok (.iaload, 1) := by decide +kernel
theorem dX4_canDraw_13 : decode cX4_canDraw 13 = .ok (.iconst (-1), 1) := by decide +kernel
theorem dX4_canDraw_14 : decode cX4_canDraw 14 = .ok (.if_icmp .ne 14, 3) := by decide +kernel
theorem dX4_canDraw_17 : decode cX4_canDraw 17 = .ok (.aload_n 0, 1) := by decide +kernel
theorem dX4_canDraw_18 : decode cX4_canDraw 18 = .ok (.getfield 36, 3) := by decide +kernel
theorem dX4_canDraw_21 : decode cX4_canDraw 21 = .ok (.ifCond .le 7, 3) := by decide +kernel
theorem dX4_canDraw_24 : decode cX4_canDraw 24 = .ok (.iconst 1, 1) := by decide +kernel
theorem dX4_canDraw_25 : decode cX4_canDraw 25 = .ok (.goto 4, 3) := by decide +kernel
theorem dX4_canDraw_28 : decode cX4_canDraw 28 = .ok (.iconst 0, 1) := by decide +kernel
theorem dX4_canDraw_29 : decode cX4_canDraw 29 = .ok (.ireturn, 1) := by decide +kernel
theorem dX4_draw_0 : decode cX4_draw 0 = .ok (.aload_n 0, 1) := by decide +kernel
theorem dX4_draw_1 : decode cX4_draw 1 = .ok (.iload_n 1, 1) := by decide +kernel
theorem dX4_draw_2 : decode cX4_draw 2 = .ok (.invokevirtual 60, 3) := by decide +kernel
theorem dX4_draw_5 : decode cX4_draw 5 = .ok (.ifCond .ne 5, 3) := by decide +kernel
theorem dX4_draw_8 : decode cX4_draw 8 = .ok (.iconst (-1), 1) := by decide +kernel
theorem dX4_draw_9 : decode cX4_draw 9 = .ok (.ireturn, 1) := by decide +kernel
theorem dX4_draw_10 : decode cX4_draw 10 = .ok (.aload_n 0, 1) := by decide +kernel
theorem dX4_draw_11 : decode cX4_draw 11 = .ok (.iconst 0, 1) := by decide +kernel
theorem dX4_draw_12 : decode cX4_draw 12 = .ok (.invokevirtual 56, 3) := by decide +kernel
theorem dX4_draw_15 : decode cX4_draw 15 = .ok (.istore_n 2, 1) := by decide +kernel
theorem dX4_draw_16 : decode cX4_draw 16 = .ok (.aload_n 0, 1) := by decide +kernel
theorem dX4_draw_17 : decode cX4_draw 17 = .ok (.getfield 15, 3) := by decide +kernel
theorem dX4_draw_20 : decode cX4_draw 20 = .ok (.iload_n 1, 1) := by decide +kernel
theorem dX4_draw_21 : decode cX4_draw 21 = .ok (.iload_n 2, 1) := by decide +kernel
theorem dX4_draw_22 : decode cX4_draw 22 = .ok (.iastore, 1) := by decide +kernel
theorem dX4_draw_23 : decode cX4_draw 23 = .ok (.iconst 1, 1) := by decide +kernel
theorem dX4_draw_24 : decode cX4_draw 24 = .ok (.istore_n 3, 1) := by decide +kernel
theorem dX4_draw_25 : decode cX4_draw 25 = .ok (.iload_n 3, 1) := by decide +kernel
theorem dX4_draw_26 : decode cX4_draw 26 = .ok (.aload_n 0, 1) := by decide +kernel
theorem dX4_draw_27 : decode cX4_draw 27 = .ok (.getfield 36, 3) := by decide +kernel
theorem dX4_draw_30 : decode cX4_draw 30 = .ok (.if_icmp .ge 29, 3) := by decide +kernel
theorem dX4_draw_33 : decode cX4_draw 33 = .ok (.iload_n 3, 1) := by decide +kernel
theorem dX4_draw_34 : decode cX4_draw 34 = .ok (.bipush 12, 2) := by decide +kernel
theorem dX4_draw_36 : decode cX4_draw 36 = .ok (.if_icmp .ge 23, 3) := by decide +kernel
theorem dX4_draw_39 : decode cX4_draw 39 = .ok (.aload_n 0, 1) := by decide +kernel
theorem dX4_draw_40 : decode cX4_draw 40 = .ok (.getfield 9, 3) := by decide +kernel
theorem dX4_draw_43 : decode cX4_draw 43 = .ok (.iload_n 3, 1) := by decide +kernel
theorem dX4_draw_44 : decode cX4_draw 44 = .ok (.iconst 1, 1) := by decide +kernel
theorem dX4_draw_45 : decode cX4_draw 45 = .ok (.isub, 1) := by decide +kernel
theorem dX4_draw_46 : decode cX4_draw 46 = .ok (.aload_n 0, 1) := by decide +kernel
theorem dX4_draw_47 : decode cX4_draw 47 = .ok (.getfield 9, 3) := by decide +kernel
theorem dX4_draw_50 : decode cX4_draw 50 = .ok (.iload_n 3, 1) := by decide +kernel
theorem dX4_draw_51 : decode cX4_draw 51 = .ok (.iaload, 1) := by decide +kernel
theorem dX4_draw_52 : decode cX4_draw 52 = .ok (.iastore, 1) := by decide +kernel
theorem dX4_draw_53 : decode cX4_draw 53 = .ok (.iinc 3 1, 3) := by decide +kernel
theorem dX4_draw_56 : decode cX4_draw 56 = .ok (.goto (-31), 3) := by decide +kernel
theorem dX4_draw_59 : decode cX4_draw 59 = .ok (.aload_n 0, 1) := by decide +kernel
theorem dX4_draw_60 : decode cX4_draw 60 = .ok (.dup, 1) := by decide +kernel
theorem dX4_draw_61 : decode cX4_draw 61 = .ok (.getfield 36, 3) := by decide +kernel
theorem dX4_draw_64 : decode cX4_draw 64 = .ok (.iconst 1, 1) := by decide +kernel
theorem dX4_draw_65 : decode cX4_draw 65 = .ok (.isub, 1) := by decide +kernel
theorem dX4_draw_66 : decode cX4_draw 66 = .ok (.putfield 36, 3) := by decide +kernel
theorem dX4_draw_69 : decode cX4_draw 69 = .ok (.iload_n 2, 1) := by decide +kernel
theorem dX4_draw_70 : decode cX4_draw 70 = .ok (.ireturn, 1) := by decide +kernel
theorem dX4_giveBack_0 : decode cX4_giveBack 0 = .ok (.aload_n 0, 1) := by decide +kernel
theorem dX4_giveBack_1 : decode cX4_giveBack 1 = .ok (.iload_n 1, 1) := by decide +kernel
theorem dX4_giveBack_2 : decode cX4_giveBack 2 = .ok (.invokevirtual 63, 3) := by decide +kernel
theorem dX4_giveBack_5 : decode cX4_giveBack 5 = .ok (.istore_n 2, 1) := by decide +kernel
theorem dX4_giveBack_6 : decode cX4_giveBack 6 = .ok (.iload_n 2, 1) := by decide +kernel
theorem dX4_giveBack_7 : decode cX4_giveBack 7 = .ok (.iconst (-1), 1) := by decide +kernel
theorem dX4_giveBack_8 : decode cX4_giveBack 8 = .ok (.if_icmp .eq 8, 3) := by decide +kernel
theorem dX4_giveBack_11 : decode cX4_giveBack 11 = .ok (.aload_n 0, 1) := by decide +kernel
theorem dX4_giveBack_12 : decode cX4_giveBack 12 = .ok (.iload_n 2, 1) := by decide +kernel
theorem dX4_giveBack_13 : decode cX4_giveBack 13 = .ok (.invokevirtual 66, 3) := by decide +kernel
theorem dX4_giveBack_16 : decode cX4_giveBack 16 = .ok (.iload_n 2, 1) := by decide +kernel
theorem dX4_giveBack_17 : decode cX4_giveBack 17 = .ok (.ireturn, 1) := by decide +kernel
theorem dX4_putAway_0 : decode cX4_putAway 0 = .ok (.aload_n 0, 1) := by decide +kernel
theorem dX4_putAway_1 : decode cX4_putAway 1 = .ok (.iload_n 1, 1) := by decide +kernel
theorem dX4_putAway_2 : decode cX4_putAway 2 = .ok (.invokevirtual 63, 3) := by decide +kernel
theorem dX4_putAway_5 : decode cX4_putAway 5 = .ok (.istore_n 2, 1) := by decide +kernel
theorem dX4_putAway_6 : decode cX4_putAway 6 = .ok (.iload_n 2, 1) := by decide +kernel
theorem dX4_putAway_7 : decode cX4_putAway 7 = .ok (.iconst (-1), 1) := by decide +kernel
theorem dX4_putAway_8 : decode cX4_putAway 8 = .ok (.if_icmp .eq 15, 3) := by decide +kernel
theorem dX4_putAway_11 : decode cX4_putAway 11 = .ok (.aload_n 0, 1) := by decide +kernel
theorem dX4_putAway_12 : decode cX4_putAway 12 = .ok (.dup, 1) := by decide +kernel
theorem dX4_putAway_13 : decode cX4_putAway 13 = .ok (.getfield 40, 3) := by decide +kernel
theorem dX4_putAway_16 : decode cX4_putAway 16 = .ok (.iconst 1, 1) := by decide +kernel
theorem dX4_putAway_17 : decode cX4_putAway 17 = .ok (.iload_n 2, 1) := by decide +kernel
theorem dX4_putAway_18 : decode cX4_putAway 18 = .ok (.ishl, 1) := by decide +kernel
theorem dX4_putAway_19 : decode cX4_putAway 19 = .ok (.ior, 1) := by decide +kernel
theorem dX4_putAway_20 : decode cX4_putAway 20 = .ok (.putfield 40, 3) := by decide +kernel
theorem dX4_putAway_23 : decode cX4_putAway 23 = .ok (.iload_n 2, 1) := by decide +kernel
theorem dX4_putAway_24 : decode cX4_putAway 24 = .ok (.ireturn, 1) := by decide +kernel
theorem dX4_takeOut_0 : decode cX4_takeOut 0 = .ok (.aload_n 0, 1) := by decide +kernel
theorem dX4_takeOut_1 : decode cX4_takeOut 1 = .ok (.dup, 1) := by decide +kernel
theorem dX4_takeOut_2 : decode cX4_takeOut 2 = .ok (.getfield 40, 3) := by decide +kernel
theorem dX4_takeOut_5 : decode cX4_takeOut 5 = .ok (.iconst 1, 1) := by decide +kernel
theorem dX4_takeOut_6 : decode cX4_takeOut 6 = .ok (.iload_n 1, 1) := by decide +kernel
theorem dX4_takeOut_7 : decode cX4_takeOut 7 = .ok (.ishl, 1) := by decide +kernel
theorem dX4_takeOut_8 : decode cX4_takeOut 8 = .ok (.iconst (-1), 1) := by decide +kernel
theorem dX4_takeOut_9 : decode cX4_takeOut 9 = .ok (.ixor, 1) := by decide +kernel
theorem dX4_takeOut_10 : decode cX4_takeOut 10 = .ok (.iand, 1) := by decide +kernel
theorem dX4_takeOut_11 : decode cX4_takeOut 11 = .ok (.putfield 40, 3) := by decide +kernel
theorem dX4_takeOut_14 : decode cX4_takeOut 14 = .ok (.aload_n 0, 1) := by decide +kernel
theorem dX4_takeOut_15 : decode cX4_takeOut 15 = .ok (.iload_n 1, 1) := by decide +kernel
theorem dX4_takeOut_16 : decode cX4_takeOut 16 = .ok (.invokevirtual 66, 3) := by decide +kernel
theorem dX4_takeOut_19 : decode cX4_takeOut 19 = .ok (.return_, 1) := by decide +kernel
theorem dX4_raise_0 : decode cX4_raise 0 = .ok (.aload_n 0, 1) := by decide +kernel
theorem dX4_raise_1 : decode cX4_raise 1 = .ok (.iload_n 1, 1) := by decide +kernel
theorem dX4_raise_2 : decode cX4_raise 2 = .ok (.invokevirtual 56, 3) := by decide +kernel
theorem dX4_raise_5 : decode cX4_raise 5 = .ok (.istore_n 2, 1) := by decide +kernel
theorem dX4_raise_6 : decode cX4_raise 6 = .ok (.iload_n 2, 1) := by decide +kernel
theorem dX4_raise_7 : decode cX4_raise 7 = .ok (.iconst (-1), 1) := by decide +kernel
theorem dX4_raise_8 : decode cX4_raise 8 = .ok (.if_icmp .ne 4, 3) := by decide +kernel
theorem dX4_raise_11 : decode cX4_raise 11 = .ok (.return_, 1) := by decide +kernel
theorem dX4_raise_12 : decode cX4_raise 12 = .ok (.iload_n 1, 1) := by decide +kernel
theorem dX4_raise_13 : decode cX4_raise 13 = .ok (.istore_n 3, 1) := by decide +kernel
theorem dX4_raise_14 : decode cX4_raise 14 = .ok (.iload_n 3, 1) := by decide +kernel
theorem dX4_raise_15 : decode cX4_raise 15 = .ok (.ifCond .le 29, 3) := by decide +kernel
theorem dX4_raise_18 : decode cX4_raise 18 = .ok (.iload_n 3, 1) := by decide +kernel
theorem dX4_raise_19 : decode cX4_raise 19 = .ok (.bipush 12, 2) := by decide +kernel
theorem dX4_raise_21 : decode cX4_raise 21 = .ok (.if_icmp .ge 23, 3) := by decide +kernel
theorem dX4_raise_24 : decode cX4_raise 24 = .ok (.aload_n 0, 1) := by decide +kernel
theorem dX4_raise_25 : decode cX4_raise 25 = .ok (.getfield 9, 3) := by decide +kernel
theorem dX4_raise_28 : decode cX4_raise 28 = .ok (.iload_n 3, 1) := by decide +kernel
theorem dX4_raise_29 : decode cX4_raise 29 = .ok (.aload_n 0, 1) := by decide +kernel
theorem dX4_raise_30 : decode cX4_raise 30 = .ok (.getfield 9, 3) := by decide +kernel
theorem dX4_raise_33 : decode cX4_raise 33 = .ok (.iload_n 3, 1) := by decide +kernel
theorem dX4_raise_34 : decode cX4_raise 34 = .ok (.iconst 1, 1) := by decide +kernel
theorem dX4_raise_35 : decode cX4_raise 35 = .ok (.isub, 1) := by decide +kernel
theorem dX4_raise_36 : decode cX4_raise 36 = .ok (.iaload, 1) := by decide +kernel
theorem dX4_raise_37 : decode cX4_raise 37 = .ok (.iastore, 1) := by decide +kernel
theorem dX4_raise_38 : decode cX4_raise 38 = .ok (.iinc 3 (-1), 3) := by decide +kernel
theorem dX4_raise_41 : decode cX4_raise 41 = .ok (.goto (-27), 3) := by decide +kernel
theorem dX4_raise_44 : decode cX4_raise 44 = .ok (.aload_n 0, 1) := by decide +kernel
theorem dX4_raise_45 : decode cX4_raise 45 = .ok (.getfield 9, 3) := by decide +kernel
theorem dX4_raise_48 : decode cX4_raise 48 = .ok (.iconst 0, 1) := by decide +kernel
theorem dX4_raise_49 : decode cX4_raise 49 = .ok (.iload_n 2, 1) := by decide +kernel
theorem dX4_raise_50 : decode cX4_raise 50 = .ok (.iastore, 1) := by decide +kernel
theorem dX4_raise_51 : decode cX4_raise 51 = .ok (.return_, 1) := by decide +kernel
theorem dX4_mix_0 : decode cX4_mix 0 = .ok (.aload_n 0, 1) := by decide +kernel
theorem dX4_mix_1 : decode cX4_mix 1 = .ok (.getfield 36, 3) := by decide +kernel
theorem dX4_mix_4 : decode cX4_mix 4 = .ok (.ifCond .le 21, 3) := by decide +kernel
theorem dX4_mix_7 : decode cX4_mix 7 = .ok (.aload_n 0, 1) := by decide +kernel
theorem dX4_mix_8 : decode cX4_mix 8 = .ok (.getfield 36, 3) := by decide +kernel
theorem dX4_mix_11 : decode cX4_mix 11 = .ok (.bipush 12, 2) := by decide +kernel
theorem dX4_mix_13 : decode cX4_mix 13 = .ok (.if_icmp .gt 12, 3) := by decide +kernel
theorem dX4_mix_16 : decode cX4_mix 16 = .ok (.aload_n 0, 1) := by decide +kernel
theorem dX4_mix_17 : decode cX4_mix 17 = .ok (.getfield 36, 3) := by decide +kernel
theorem dX4_mix_20 : decode cX4_mix 20 = .ok (.aload_n 2, 1) := by decide +kernel
theorem dX4_mix_21 : decode cX4_mix 21 = .ok (.arraylength, 1) := by decide +kernel
theorem dX4_mix_22 : decode cX4_mix 22 = .ok (.if_icmp .le 4, 3) := by decide +kernel
theorem dX4_mix_25 : decode cX4_mix 25 = .ok (.return_, 1) := by decide +kernel
theorem dX4_mix_26 : decode cX4_mix 26 = .ok (.iconst 0, 1) := by decide +kernel
theorem dX4_mix_27 : decode cX4_mix 27 = .ok (.istore_n 3, 1) := by decide +kernel
theorem dX4_mix_28 : decode cX4_mix 28 = .ok (.iload_n 3, 1) := by decide +kernel
theorem dX4_mix_29 : decode cX4_mix 29 = .ok (.aload_n 0, 1) := by decide +kernel
theorem dX4_mix_30 : decode cX4_mix 30 = .ok (.getfield 36, 3) := by decide +kernel
theorem dX4_mix_33 : decode cX4_mix 33 = .ok (.if_icmp .ge 44, 3) := by decide +kernel
theorem dX4_mix_36 : decode cX4_mix 36 = .ok (.iload_n 1, 1) := by decide +kernel
theorem dX4_mix_37 : decode cX4_mix 37 = .ok (.iload_n 3, 1) := by decide +kernel
theorem dX4_mix_38 : decode cX4_mix 38 = .ok (.aload_n 0, 1) := by decide +kernel
theorem dX4_mix_39 : decode cX4_mix 39 = .ok (.getfield 36, 3) := by decide +kernel
theorem dX4_mix_42 : decode cX4_mix 42 = .ok (.invokestatic 70, 3) := by decide +kernel
theorem dX4_mix_45 : decode cX4_mix 45 = .ok (.istore 4, 2) := by decide +kernel
theorem dX4_mix_47 : decode cX4_mix 47 = .ok (.iload 4, 2) := by decide +kernel
theorem dX4_mix_49 : decode cX4_mix 49 = .ok (.ifCond .lt 22, 3) := by decide +kernel
theorem dX4_mix_52 : decode cX4_mix 52 = .ok (.iload 4, 2) := by decide +kernel
theorem dX4_mix_54 : decode cX4_mix 54 = .ok (.aload_n 0, 1) := by decide +kernel
theorem dX4_mix_55 : decode cX4_mix 55 = .ok (.getfield 36, 3) := by decide +kernel
theorem dX4_mix_58 : decode cX4_mix 58 = .ok (.if_icmp .ge 13, 3) := by decide +kernel
theorem dX4_mix_61 : decode cX4_mix 61 = .ok (.aload_n 2, 1) := by decide +kernel
theorem dX4_mix_62 : decode cX4_mix 62 = .ok (.iload 4, 2) := by decide +kernel
theorem dX4_mix_64 : decode cX4_mix 64 = .ok (.aload_n 0, 1) := by decide +kernel
theorem dX4_mix_65 : decode cX4_mix 65 = .ok (.getfield 9, 3) := by decide +kernel
theorem dX4_mix_68 : decode cX4_mix 68 = .ok (.iload_n 3, 1) := by decide +kernel
theorem dX4_mix_69 : decode cX4_mix 69 = .ok (.iaload, 1) := by decide +kernel
theorem dX4_mix_70 : decode cX4_mix 70 = .ok (.iastore, 1) := by decide +kernel
theorem dX4_mix_71 : decode cX4_mix 71 = .ok (.iinc 3 1, 3) := by decide +kernel
theorem dX4_mix_74 : decode cX4_mix 74 = .ok (.goto (-46), 3) := by decide +kernel
theorem dX4_mix_77 : decode cX4_mix 77 = .ok (.aload_n 2, 1) := by decide +kernel
theorem dX4_mix_78 : decode cX4_mix 78 = .ok (.iconst 0, 1) := by decide +kernel
theorem dX4_mix_79 : decode cX4_mix 79 = .ok (.aload_n 0, 1) := by decide +kernel
theorem dX4_mix_80 : decode cX4_mix 80 = .ok (.getfield 9, 3) := by decide +kernel
theorem dX4_mix_83 : decode cX4_mix 83 = .ok (.iconst 0, 1) := by decide +kernel
theorem dX4_mix_84 : decode cX4_mix 84 = .ok (.aload_n 0, 1) := by decide +kernel
theorem dX4_mix_85 : decode cX4_mix 85 = .ok (.getfield 36, 3) := by decide +kernel
theorem dX4_mix_88 : decode cX4_mix 88 = .ok (.invokestatic 46, 3) := by decide +kernel
theorem dX4_mix_91 : decode cX4_mix 91 = .ok (.return_, 1) := by decide +kernel
theorem dX4_layDown_0 : decode cX4_layDown 0 = .ok (.aload_n 0, 1) := by decide +kernel
theorem dX4_layDown_1 : decode cX4_layDown 1 = .ok (.iload_n 1, 1) := by decide +kernel
theorem dX4_layDown_2 : decode cX4_layDown 2 = .ok (.invokevirtual 74, 3) := by decide +kernel
theorem dX4_layDown_5 : decode cX4_layDown 5 = .ok (.istore_n 2, 1) := by decide +kernel
theorem dX4_layDown_6 : decode cX4_layDown 6 = .ok (.iload_n 1, 1) := by decide +kernel
theorem dX4_layDown_7 : decode cX4_layDown 7 = .ok (.invokestatic 52, 3) := by decide +kernel
theorem dX4_layDown_10 : decode cX4_layDown 10 = .ok (.ifCond .eq 10, 3) := by decide +kernel
theorem dX4_layDown_13 : decode cX4_layDown 13 = .ok (.aload_n 0, 1) := by decide +kernel
theorem dX4_layDown_14 : decode cX4_layDown 14 = .ok (.getfield 15, 3) := by decide +kernel
theorem dX4_layDown_17 : decode cX4_layDown 17 = .ok (.iload_n 1, 1) := by decide +kernel
theorem dX4_layDown_18 : decode cX4_layDown 18 = .ok (.iconst (-1), 1) := by decide +kernel
theorem dX4_layDown_19 : decode cX4_layDown 19 = .ok (.iastore, 1) := by decide +kernel
theorem dX4_layDown_20 : decode cX4_layDown 20 = .ok (.iload_n 2, 1) := by decide +kernel
theorem dX4_layDown_21 : decode cX4_layDown 21 = .ok (.ireturn, 1) := by decide +kernel
theorem dX4_putBelow_0 : decode cX4_putBelow 0 = .ok (.aload_n 0, 1) := by decide +kernel
theorem dX4_putBelow_1 : decode cX4_putBelow 1 = .ok (.getfield 36, 3) := by decide +kernel
theorem dX4_putBelow_4 : decode cX4_putBelow 4 = .ok (.ifCond .lt 32, 3) := by decide +kernel
theorem dX4_putBelow_7 : decode cX4_putBelow 7 = .ok (.aload_n 0, 1) := by decide +kernel
theorem dX4_putBelow_8 : decode cX4_putBelow 8 = .ok (.getfield 36, 3) := by decide +kernel
theorem dX4_putBelow_11 : decode cX4_putBelow 11 = .ok (.bipush 12, 2) := by decide +kernel
theorem dX4_putBelow_13 : decode cX4_putBelow 13 = .ok (.if_icmp .ge 23, 3) := by decide +kernel
theorem dX4_putBelow_16 : decode cX4_putBelow 16 = .ok (.aload_n 0, 1) := by decide +kernel
theorem dX4_putBelow_17 : decode cX4_putBelow 17 = .ok (.getfield 9, 3) := by decide +kernel
theorem dX4_putBelow_20 : decode cX4_putBelow 20 = .ok (.aload_n 0, 1) := by decide +kernel
theorem dX4_putBelow_21 : decode cX4_putBelow 21 = .ok (.getfield 36, 3) := by decide +kernel
theorem dX4_putBelow_24 : decode cX4_putBelow 24 = .ok (.iload_n 1, 1) := by decide +kernel
theorem dX4_putBelow_25 : decode cX4_putBelow 25 = .ok (.iastore, 1) := by decide +kernel
theorem dX4_putBelow_26 : decode cX4_putBelow 26 = .ok (.aload_n 0, 1) := by decide +kernel
theorem dX4_putBelow_27 : decode cX4_putBelow 27 = .ok (.dup, 1) := by decide +kernel
theorem dX4_putBelow_28 : decode cX4_putBelow 28 = .ok (.getfield 36, 3) := by decide +kernel
theorem dX4_putBelow_31 : decode cX4_putBelow 31 = .ok (.iconst 1, 1) := by decide +kernel
theorem dX4_putBelow_32 : decode cX4_putBelow 32 = .ok (.iadd, 1) := by decide +kernel
theorem dX4_putBelow_33 : decode cX4_putBelow 33 = .ok (.putfield 36, 3) := by decide +kernel
theorem dX4_putBelow_36 : decode cX4_putBelow 36 = .ok (.return_, 1) := by decide +kernel
theorem dX4_noteMeeting_0 : decode cX4_noteMeeting 0 = .ok (.iload_n 3, 1) := by decide +kernel
theorem dX4_noteMeeting_1 : decode cX4_noteMeeting 1 = .ok (.ifCond .ne 11, 3) := by decide +kernel
theorem dX4_noteMeeting_4 : decode cX4_noteMeeting 4 = .ok (.aload_n 0, 1) := by decide +kernel
theorem dX4_noteMeeting_5 : decode cX4_noteMeeting 5 = .ok (.iload_n 1, 1) := by decide +kernel
theorem dX4_noteMeeting_6 : decode cX4_noteMeeting 6 = .ok (.invokevirtual 77, 3) := by decide +kernel
theorem dX4_noteMeeting_9 : decode cX4_noteMeeting 9 = .ok (.goto 13, 3) := by decide +kernel
theorem dX4_noteMeeting_12 : decode cX4_noteMeeting 12 = .ok (.iload_n 3, 1) := by decide +kernel
theorem dX4_noteMeeting_13 : decode cX4_noteMeeting 13 = .ok (.iconst 1, 1) := by decide +kernel
theorem dX4_noteMeeting_14 : decode cX4_noteMeeting 14 = .ok (.if_icmp .ne 8, 3) := by decide +kernel
theorem dX4_noteMeeting_17 : decode cX4_noteMeeting 17 = .ok (.aload_n 0, 1) := by decide +kernel
theorem dX4_noteMeeting_18 : decode cX4_noteMeeting 18 = .ok (.iload_n 2, 1) := by decide +kernel
theorem dX4_noteMeeting_19 : decode cX4_noteMeeting 19 = .ok (.invokevirtual 77, 3) := by decide +kernel
theorem dX4_noteMeeting_22 : decode cX4_noteMeeting 22 = .ok (.aload_n 0, 1) := by decide +kernel
theorem dX4_noteMeeting_23 : decode cX4_noteMeeting 23 = .ok (.getfield 43, 3) := by decide +kernel
theorem dX4_noteMeeting_26 : decode cX4_noteMeeting 26 = .ok (.bipush 24, 2) := by decide +kernel
theorem dX4_noteMeeting_28 : decode cX4_noteMeeting 28 = .ok (.if_icmp .lt 24, 3) := by decide +kernel
theorem dX4_noteMeeting_31 : decode cX4_noteMeeting 31 = .ok (.aload_n 0, 1) := by decide +kernel
theorem dX4_noteMeeting_32 : decode cX4_noteMeeting 32 = .ok (.getfield 21, 3) := by decide +kernel
theorem dX4_noteMeeting_35 : decode cX4_noteMeeting 35 = .ok (.iconst 1, 1) := by decide +kernel
theorem dX4_noteMeeting_36 : decode cX4_noteMeeting 36 = .ok (.aload_n 0, 1) := by decide +kernel
theorem dX4_noteMeeting_37 : decode cX4_noteMeeting 37 = .ok (.getfield 21, 3) := by decide +kernel
theorem dX4_noteMeeting_40 : decode cX4_noteMeeting 40 = .ok (.iconst 0, 1) := by decide +kernel
theorem dX4_noteMeeting_41 : decode cX4_noteMeeting 41 = .ok (.bipush 23, 2) := by decide +kernel
theorem dX4_noteMeeting_43 : decode cX4_noteMeeting 43 = .ok (.invokestatic 46, 3) := by decide +kernel
theorem dX4_noteMeeting_46 : decode cX4_noteMeeting 46 = .ok (.aload_n 0, 1) := by decide +kernel
theorem dX4_noteMeeting_47 : decode cX4_noteMeeting 47 = .ok (.bipush 23, 2) := by decide +kernel
theorem dX4_noteMeeting_49 : decode cX4_noteMeeting 49 = .ok (.putfield 43, 3) := by decide +kernel
theorem dX4_noteMeeting_52 : decode cX4_noteMeeting 52 = .ok (.aload_n 0, 1) := by decide +kernel
theorem dX4_noteMeeting_53 : decode cX4_noteMeeting 53 = .ok (.getfield 43, 3) := by decide +kernel
theorem dX4_noteMeeting_56 : decode cX4_noteMeeting 56 = .ok (.ifCond .lt 54, 3) := by decide +kernel
theorem dX4_noteMeeting_59 : decode cX4_noteMeeting 59 = .ok (.aload_n 0, 1) := by decide +kernel
theorem dX4_noteMeeting_60 : decode cX4_noteMeeting 60 = .ok (.getfield 21, 3) := by decide +kernel
theorem dX4_noteMeeting_63 : decode cX4_noteMeeting 63 = .ok (.aload_n 0, 1) := by decide +kernel
theorem dX4_noteMeeting_64 : decode cX4_noteMeeting 64 = .ok (.getfield 43, 3) := by decide +kernel
theorem dX4_noteMeeting_67 : decode cX4_noteMeeting 67 = .ok (.iload_n 1, 1) := by decide +kernel
theorem dX4_noteMeeting_68 : decode cX4_noteMeeting 68 = .ok (.iload_n 2, 1) := by decide +kernel
theorem dX4_noteMeeting_69 : decode cX4_noteMeeting 69 = .ok (.iconst 4, 1) := by decide +kernel
theorem dX4_noteMeeting_70 : decode cX4_noteMeeting 70 = .ok (.ishl, 1) := by decide +kernel
theorem dX4_noteMeeting_71 : decode cX4_noteMeeting 71 = .ok (.ior, 1) := by decide +kernel
theorem dX4_noteMeeting_72 : decode cX4_noteMeeting 72 = .ok (.aload_n 0, 1) := by decide +kernel
theorem dX4_noteMeeting_73 : decode cX4_noteMeeting 73 = .ok (.iload_n 1, 1) := by decide +kernel
theorem dX4_noteMeeting_74 : decode cX4_noteMeeting 74 = .ok (.invokevirtual 74, 3) := by decide +kernel
theorem dX4_noteMeeting_77 : decode cX4_noteMeeting 77 = .ok (.iconst 1, 1) := by decide +kernel
theorem dX4_noteMeeting_78 : decode cX4_noteMeeting 78 = .ok (.iadd, 1) := by decide +kernel
theorem dX4_noteMeeting_79 : decode cX4_noteMeeting 79 = .ok (.bipush 8, 2) := by decide +kernel
theorem dX4_noteMeeting_81 : decode cX4_noteMeeting 81 = .ok (.ishl, 1) := by decide +kernel
theorem dX4_noteMeeting_82 : decode cX4_noteMeeting 82 = .ok (.ior, 1) := by decide +kernel
theorem dX4_noteMeeting_83 : decode cX4_noteMeeting 83 = .ok (.aload_n 0, 1) := by decide +kernel
theorem dX4_noteMeeting_84 : decode cX4_noteMeeting 84 = .ok (.iload_n 2, 1) := by decide +kernel
theorem dX4_noteMeeting_85 : decode cX4_noteMeeting 85 = .ok (.invokevirtual 74, 3) := by decide +kernel
theorem dX4_noteMeeting_88 : decode cX4_noteMeeting 88 = .ok (.iconst 1, 1) := by decide +kernel
theorem dX4_noteMeeting_89 : decode cX4_noteMeeting 89 = .ok (.iadd, 1) := by decide +kernel
theorem dX4_noteMeeting_90 : decode cX4_noteMeeting 90 = .ok (.bipush 12, 2) := by decide +kernel
theorem dX4_noteMeeting_92 : decode cX4_noteMeeting 92 = .ok (.ishl, 1) := by decide +kernel
theorem dX4_noteMeeting_93 : decode cX4_noteMeeting 93 = .ok (.ior, 1) := by decide +kernel
theorem dX4_noteMeeting_94 : decode cX4_noteMeeting 94 = .ok (.iload_n 3, 1) := by decide +kernel
theorem dX4_noteMeeting_95 : decode cX4_noteMeeting 95 = .ok (.bipush 16, 2) := by decide +kernel
theorem dX4_noteMeeting_97 : decode cX4_noteMeeting 97 = .ok (.ishl, 1) := by decide +kernel
theorem dX4_noteMeeting_98 : decode cX4_noteMeeting 98 = .ok (.ior, 1) := by decide +kernel
theorem dX4_noteMeeting_99 : decode cX4_noteMeeting 99 = .ok (.iastore, 1) := by decide +kernel
theorem dX4_noteMeeting_100 : decode cX4_noteMeeting 100 = .ok (.aload_n 0, 1) := by decide +kernel
theorem dX4_noteMeeting_101 : decode cX4_noteMeeting 101 = .ok (.dup, 1) := by decide +kernel
theorem dX4_noteMeeting_102 : decode cX4_noteMeeting 102 = .ok (.getfield 43, 3) := by decide +kernel
theorem dX4_noteMeeting_105 : decode cX4_noteMeeting 105 = .ok (.iconst 1, 1) := by decide +kernel
theorem dX4_noteMeeting_106 : decode cX4_noteMeeting 106 = .ok (.iadd, 1) := by decide +kernel
theorem dX4_noteMeeting_107 : decode cX4_noteMeeting 107 = .ok (.putfield 43, 3) := by decide +kernel
theorem dX4_noteMeeting_110 : decode cX4_noteMeeting 110 = .ok (.return_, 1) := by decide +kernel
theorem dX4_countWin_0 : decode cX4_countWin 0 = .ok (.iload_n 1, 1) := by decide +kernel
theorem dX4_countWin_1 : decode cX4_countWin 1 = .ok (.invokestatic 52, 3) := by decide +kernel
theorem dX4_countWin_4 : decode cX4_countWin 4 = .ok (.ifCond .eq 24, 3) := by decide +kernel
theorem dX4_countWin_7 : decode cX4_countWin 7 = .ok (.aload_n 0, 1) := by decide +kernel
theorem dX4_countWin_8 : decode cX4_countWin 8 = .ok (.getfield 18, 3) := by decide +kernel
theorem dX4_countWin_11 : decode cX4_countWin 11 = .ok (.iload_n 1, 1) := by decide +kernel
theorem dX4_countWin_12 : decode cX4_countWin 12 = .ok (.iaload, 1) := by decide +kernel
theorem dX4_countWin_13 : decode cX4_countWin 13 = .ok (.ldc 80, 2) := by decide +kernel
theorem dX4_countWin_15 : decode cX4_countWin 15 = .ok (.if_icmp .ge 13, 3) := by decide +kernel
theorem dX4_countWin_18 : decode cX4_countWin 18 = .ok (.aload_n 0, 1) := by decide +kernel
theorem dX4_countWin_19 : decode cX4_countWin 19 = .ok (.getfield 18, 3) := by decide +kernel
theorem dX4_countWin_22 : decode cX4_countWin 22 = .ok (.iload_n 1, 1) := by decide +kernel
theorem dX4_countWin_23 : decode cX4_countWin 23 = .ok (.dup2, 1) := by decide +kernel
theorem dX4_countWin_24 : decode cX4_countWin 24 = .ok (.iaload, 1) := by decide +kernel
theorem dX4_countWin_25 : decode cX4_countWin 25 = .ok (.iconst 1, 1) := by decide +kernel
theorem dX4_countWin_26 : decode cX4_countWin 26 = .ok (.iadd, 1) := by decide +kernel
theorem dX4_countWin_27 : decode cX4_countWin 27 = .ok (.iastore, 1) := by decide +kernel
theorem dX4_countWin_28 : decode cX4_countWin 28 = .ok (.return_, 1) := by decide +kernel
theorem dX4_entry_0 : decode cX4_entry 0 = .ok (.iload_n 1, 1) := by decide +kernel
theorem dX4_entry_1 : decode cX4_entry 1 = .ok (.ifCond .lt 17, 3) := by decide +kernel
theorem dX4_entry_4 : decode cX4_entry 4 = .ok (.iload_n 1, 1) := by decide +kernel
theorem dX4_entry_5 : decode cX4_entry 5 = .ok (.aload_n 0, 1) := by decide +kernel
theorem dX4_entry_6 : decode cX4_entry 6 = .ok (.getfield 43, 3) := by decide +kernel
theorem dX4_entry_9 : decode cX4_entry 9 = .ok (.if_icmp .ge 9, 3) := by decide +kernel
theorem dX4_entry_12 : decode cX4_entry 12 = .ok (.iload_n 1, 1) := by decide +kernel
theorem dX4_entry_13 : decode cX4_entry 13 = .ok (.bipush 24, 2) := by decide +kernel
theorem dX4_entry_15 : decode cX4_entry 15 = .ok (.if_icmp .lt 7, 3) := by decide +kernel
theorem dX4_entry_18 : decode cX4_entry 18 = .ok (.iconst 0, 1) := by decide +kernel
theorem dX4_entry_19 : decode cX4_entry 19 = .ok (.goto 9, 3) := by decide +kernel
theorem dX4_entry_22 : decode cX4_entry 22 = .ok (.aload_n 0, 1) := by decide +kernel
theorem dX4_entry_23 : decode cX4_entry 23 = .ok (.getfield 21, 3) := by decide +kernel
theorem dX4_entry_26 : decode cX4_entry 26 = .ok (.iload_n 1, 1) := by decide +kernel
theorem dX4_entry_27 : decode cX4_entry 27 = .ok (.iaload, 1) := by decide +kernel
theorem dX4_entry_28 : decode cX4_entry 28 = .ok (.ireturn, 1) := by decide +kernel
theorem dX4_firstIn_0 : decode cX4_firstIn 0 = .ok (.iload_n 0, 1) := by decide +kernel
theorem dX4_firstIn_1 : decode cX4_firstIn 1 = .ok (.bipush 15, 2) := by decide +kernel
theorem dX4_firstIn_3 : decode cX4_firstIn 3 = .ok (.iand, 1) := by decide +kernel
theorem dX4_firstIn_4 : decode cX4_firstIn 4 = .ok (.ireturn, 1) := by decide +kernel
theorem dX4_secondIn_0 : decode cX4_secondIn 0 = .ok (.iload_n 0, 1) := by decide +kernel
theorem dX4_secondIn_1 : decode cX4_secondIn 1 = .ok (.iconst 4, 1) := by decide +kernel
theorem dX4_secondIn_2 : decode cX4_secondIn 2 = .ok (.ishr, 1) := by decide +kernel
theorem dX4_secondIn_3 : decode cX4_secondIn 3 = .ok (.bipush 15, 2) := by decide +kernel
theorem dX4_secondIn_5 : decode cX4_secondIn 5 = .ok (.iand, 1) := by decide +kernel
theorem dX4_secondIn_6 : decode cX4_secondIn 6 = .ok (.ireturn, 1) := by decide +kernel
theorem dX4_firstCardIn_0 : decode cX4_firstCardIn 0 = .ok (.iload_n 0, 1) := by decide +kernel
theorem dX4_firstCardIn_1 : decode cX4_firstCardIn 1 = .ok (.bipush 8, 2) := by decide +kernel
theorem dX4_firstCardIn_3 : decode cX4_firstCardIn 3 = .ok (.ishr, 1) := by decide +kernel
theorem dX4_firstCardIn_4 : decode cX4_firstCardIn 4 = .ok (.bipush 15, 2) := by decide +kernel
theorem dX4_firstCardIn_6 : decode cX4_firstCardIn 6 = .ok (.iand, 1) := by decide +kernel
theorem dX4_firstCardIn_7 : decode cX4_firstCardIn 7 = .ok (.iconst 1, 1) := by decide +kernel
theorem dX4_firstCardIn_8 : decode cX4_firstCardIn 8 = .ok (.isub, 1) := by decide +kernel
theorem dX4_firstCardIn_9 : decode cX4_firstCardIn 9 = .ok (.ireturn, 1) := by decide +kernel
theorem dX4_secondCardIn_0 : decode cX4_secondCardIn 0 = .ok (.iload_n 0, 1) := by decide +kernel
theorem dX4_secondCardIn_1 : decode cX4_secondCardIn 1 = .ok (.bipush 12, 2) := by decide +kernel
theorem dX4_secondCardIn_3 : decode cX4_secondCardIn 3 = .ok (.ishr, 1) := by decide +kernel
theorem dX4_secondCardIn_4 : decode cX4_secondCardIn 4 = .ok (.bipush 15, 2) := by decide +kernel
theorem dX4_secondCardIn_6 : decode cX4_secondCardIn 6 = .ok (.iand, 1) := by decide +kernel
theorem dX4_secondCardIn_7 : decode cX4_secondCardIn 7 = .ok (.iconst 1, 1) := by decide +kernel
theorem dX4_secondCardIn_8 : decode cX4_secondCardIn 8 = .ok (.isub, 1) := by decide +kernel
theorem dX4_secondCardIn_9 : decode cX4_secondCardIn 9 = .ok (.ireturn, 1) := by decide +kernel
theorem dX4_outcomeIn_0 : decode cX4_outcomeIn 0 = .ok (.iload_n 0, 1) := by decide +kernel
theorem dX4_outcomeIn_1 : decode cX4_outcomeIn 1 = .ok (.bipush 16, 2) := by decide +kernel
theorem dX4_outcomeIn_3 : decode cX4_outcomeIn 3 = .ok (.ishr, 1) := by decide +kernel
theorem dX4_outcomeIn_4 : decode cX4_outcomeIn 4 = .ok (.iconst 3, 1) := by decide +kernel
theorem dX4_outcomeIn_5 : decode cX4_outcomeIn 5 = .ok (.iand, 1) := by decide +kernel
theorem dX4_outcomeIn_6 : decode cX4_outcomeIn 6 = .ok (.ireturn, 1) := by decide +kernel
theorem dX5_init_0 : decode cX5_init 0 = .ok (.aload_n 0, 1) := by decide +kernel
theorem dX5_init_1 : decode cX5_init 1 = .ok (.invokespecial 3, 3) := by decide +kernel
theorem dX5_init_4 : decode cX5_init 4 = .ok (.aload_n 0, 1) := by decide +kernel
theorem dX5_init_5 : decode cX5_init 5 = .ok (.new 9, 3) := by decide +kernel
theorem dX5_init_8 : decode cX5_init 8 = .ok (.dup, 1) := by decide +kernel
theorem dX5_init_9 : decode cX5_init 9 = .ok (.invokespecial 11, 3) := by decide +kernel
theorem dX5_init_12 : decode cX5_init 12 = .ok (.putfield 12, 3) := by decide +kernel
theorem dX5_init_15 : decode cX5_init 15 = .ok (.aload_n 0, 1) := by decide +kernel
theorem dX5_init_16 : decode cX5_init 16 = .ok (.iconst (-1), 1) := by decide +kernel
theorem dX5_init_17 : decode cX5_init 17 = .ok (.putfield 18, 3) := by decide +kernel
theorem dX5_init_20 : decode cX5_init 20 = .ok (.aload_n 0, 1) := by decide +kernel
theorem dX5_init_21 : decode cX5_init 21 = .ok (.sipush 240, 3) := by decide +kernel
theorem dX5_init_24 : decode cX5_init 24 = .ok (.newarray .int, 2) := by decide +kernel
theorem dX5_init_26 : decode cX5_init 26 = .ok (.putfield 22, 3) := by decide +kernel
theorem dX5_init_29 : decode cX5_init 29 = .ok (.return_, 1) := by decide +kernel
theorem dX5_add_0 : decode cX5_add 0 = .ok (.aload_n 0, 1) := by decide +kernel
theorem dX5_add_1 : decode cX5_add 1 = .ok (.getfield 26, 3) := by decide +kernel
theorem dX5_add_4 : decode cX5_add 4 = .ok (.ifCond .lt 13, 3) := by decide +kernel
theorem dX5_add_7 : decode cX5_add 7 = .ok (.aload_n 0, 1) := by decide +kernel
theorem dX5_add_8 : decode cX5_add 8 = .ok (.getfield 26, 3) := by decide +kernel
theorem dX5_add_11 : decode cX5_add 11 = .ok (.sipush 240, 3) := by decide +kernel
theorem dX5_add_14 : decode cX5_add 14 = .ok (.if_icmp .lt 5, 3) := by decide +kernel
theorem dX5_add_17 : decode cX5_add 17 = .ok (.iconst 0, 1) := by decide +kernel
theorem dX5_add_18 : decode cX5_add 18 = .ok (.ireturn, 1) := by decide +kernel
theorem dX5_add_19 : decode cX5_add 19 = .ok (.aload_n 0, 1) := by decide +kernel
theorem dX5_add_20 : decode cX5_add 20 = .ok (.getfield 22, 3) := by decide +kernel
theorem dX5_add_23 : decode cX5_add 23 = .ok (.aload_n 0, 1) := by decide +kernel
theorem dX5_add_24 : decode cX5_add 24 = .ok (.getfield 26, 3) := by decide +kernel
theorem dX5_add_27 : decode cX5_add 27 = .ok (.iload_n 1, 1) := by decide +kernel
theorem dX5_add_28 : decode cX5_add 28 = .ok (.iastore, 1) := by decide +kernel
theorem dX5_add_29 : decode cX5_add 29 = .ok (.aload_n 0, 1) := by decide +kernel
theorem dX5_add_30 : decode cX5_add 30 = .ok (.dup, 1) := by decide +kernel
theorem dX5_add_31 : decode cX5_add 31 = .ok (.getfield 26, 3) := by decide +kernel
theorem dX5_add_34 : decode cX5_add 34 = .ok (.iconst 1, 1) := by decide +kernel
theorem dX5_add_35 : decode cX5_add 35 = .ok (.iadd, 1) := by decide +kernel
theorem dX5_add_36 : decode cX5_add 36 = .ok (.putfield 26, 3) := by decide +kernel
theorem dX5_add_39 : decode cX5_add 39 = .ok (.iconst 1, 1) := by decide +kernel
theorem dX5_add_40 : decode cX5_add 40 = .ok (.ireturn, 1) := by decide +kernel
theorem dX5_read_0 : decode cX5_read 0 = .ok (.aload_n 0, 1) := by decide +kernel
theorem dX5_read_1 : decode cX5_read 1 = .ok (.iconst 0, 1) := by decide +kernel
theorem dX5_read_2 : decode cX5_read 2 = .ok (.putfield 29, 3) := by decide +kernel
theorem dX5_read_5 : decode cX5_read 5 = .ok (.aload_n 0, 1) := by decide +kernel
theorem dX5_read_6 : decode cX5_read 6 = .ok (.iconst 0, 1) := by decide +kernel
theorem dX5_read_7 : decode cX5_read 7 = .ok (.putfield 32, 3) := by decide +kernel
theorem dX5_read_10 : decode cX5_read 10 = .ok (.aload_n 0, 1) := by decide +kernel
theorem dX5_read_11 : decode cX5_read 11 = .ok (.iconst (-1), 1) := by decide +kernel
theorem dX5_read_12 : decode cX5_read 12 = .ok (.putfield 18, 3) := by decide +kernel
theorem dX5_read_15 : decode cX5_read 15 = .ok (.aload_n 0, 1) := by decide +kernel
theorem dX5_read_16 : decode cX5_read 16 = .ok (.getfield 12, 3) := by decide +kernel
theorem dX5_read_19 : decode cX5_read 19 = .ok (.invokevirtual 35, 3) := by decide +kernel
theorem dX5_read_22 : decode cX5_read 22 = .ok (.aload_n 0, 1) := by decide +kernel
theorem dX5_read_23 : decode cX5_read 23 = .ok (.invokevirtual 38, 3) := by decide +kernel
theorem dX5_read_26 : decode cX5_read 26 = .ok (.aload_n 0, 1) := by decide +kernel
theorem dX5_read_27 : decode cX5_read 27 = .ok (.getfield 29, 3) := by decide +kernel
theorem dX5_read_30 : decode cX5_read 30 = .ok (.aload_n 0, 1) := by decide +kernel
theorem dX5_read_31 : decode cX5_read 31 = .ok (.getfield 26, 3) := by decide +kernel
theorem dX5_read_34 : decode cX5_read 34 = .ok (.if_icmp .ge 7, 3) := by decide +kernel
theorem dX5_read_37 : decode cX5_read 37 = .ok (.aload_n 0, 1) := by decide +kernel
theorem dX5_read_38 : decode cX5_read 38 = .ok (.invokevirtual 41, 3) := by decide +kernel
theorem dX5_read_41 : decode cX5_read 41 = .ok (.aload_n 0, 1) := by decide +kernel
theorem dX5_read_42 : decode cX5_read 42 = .ok (.iconst 0, 1) := by decide +kernel
