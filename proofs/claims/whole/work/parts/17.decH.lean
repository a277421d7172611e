theorem dX8_odds_3 : decode cX8_odds 3 = .ok (.invokevirtual 242, 3) := by decide +kernel
theorem dX8_odds_6 : decode cX8_odds 6 = .ok (.ifCond .ne 6, 3) := by decide +kernel
theorem dX8_odds_9 : decode cX8_odds 9 = .ok (.ldc 209, 2) := by decide +kernel
theorem dX8_odds_11 : decode cX8_odds 11 = .ok (.ireturn, 1) := by decide +kernel
theorem dX8_odds_12 : decode cX8_odds 12 = .ok (.aload_n 0, 1) := by decide +kernel
theorem dX8_odds_13 : decode cX8_odds 13 = .ok (.getfield 16, 3) := by decide +kernel
theorem dX8_odds_16 : decode cX8_odds 16 = .ok (.bipush 12, 2) := by decide +kernel
theorem dX8_odds_18 : decode cX8_odds 18 = .ok (.iaload, 1) := by decide +kernel
theorem dX8_odds_19 : decode cX8_odds 19 = .ok (.istore_n 3, 1) := by decide +kernel
theorem dX8_odds_20 : decode cX8_odds 20 = .ok (.iconst 0, 1) := by decide +kernel
theorem dX8_odds_21 : decode cX8_odds 21 = .ok (.istore 4, 2) := by decide +kernel
theorem dX8_odds_23 : decode cX8_odds 23 = .ok (.iconst 0, 1) := by decide +kernel
theorem dX8_odds_24 : decode cX8_odds 24 = .ok (.istore 5, 2) := by decide +kernel
theorem dX8_odds_26 : decode cX8_odds 26 = .ok (.iload 5, 2) := by decide +kernel
theorem dX8_odds_28 : decode cX8_odds 28 = .ok (.iload_n 3, 1) := by decide +kernel
theorem dX8_odds_29 : decode cX8_odds 29 = .ok (.if_icmp .ge 44, 3) := by decide +kernel
theorem dX8_odds_32 : decode cX8_odds 32 = .ok (.iload 4, 2) := by decide +kernel
theorem dX8_odds_34 : decode cX8_odds 34 = .ok (.aload_n 0, 1) := by decide +kernel
theorem dX8_odds_35 : decode cX8_odds 35 = .ok (.aload_n 0, 1) := by decide +kernel
theorem dX8_odds_36 : decode cX8_odds 36 = .ok (.getfield 16, 3) := by decide +kernel
theorem dX8_odds_39 : decode cX8_odds 39 = .ok (.iconst 0, 1) := by decide +kernel
theorem dX8_odds_40 : decode cX8_odds 40 = .ok (.iload 5, 2) := by decide +kernel
theorem dX8_odds_42 : decode cX8_odds 42 = .ok (.iadd, 1) := by decide +kernel
theorem dX8_odds_43 : decode cX8_odds 43 = .ok (.iaload, 1) := by decide +kernel
theorem dX8_odds_44 : decode cX8_odds 44 = .ok (.aload_n 0, 1) := by decide +kernel
theorem dX8_odds_45 : decode cX8_odds 45 = .ok (.getfield 16, 3) := by decide +kernel
theorem dX8_odds_48 : decode cX8_odds 48 = .ok (.bipush 13, 2) := by decide +kernel
theorem dX8_odds_50 : decode cX8_odds 50 = .ok (.iload_n 2, 1) := by decide +kernel
theorem dX8_odds_51 : decode cX8_odds 51 = .ok (.iadd, 1) := by decide +kernel
theorem dX8_odds_52 : decode cX8_odds 52 = .ok (.iaload, 1) := by decide +kernel
theorem dX8_odds_53 : decode cX8_odds 53 = .ok (.invokevirtual 177, 3) := by decide +kernel
theorem dX8_odds_56 : decode cX8_odds 56 = .ok (.ifCond .ne 7, 3) := by decide +kernel
theorem dX8_odds_59 : decode cX8_odds 59 = .ok (.iconst 1, 1) := by decide +kernel
theorem dX8_odds_60 : decode cX8_odds 60 = .ok (.goto 4, 3) := by decide +kernel
theorem dX8_odds_63 : decode cX8_odds 63 = .ok (.iconst 0, 1) := by decide +kernel
theorem dX8_odds_64 : decode cX8_odds 64 = .ok (.iadd, 1) := by decide +kernel
theorem dX8_odds_65 : decode cX8_odds 65 = .ok (.istore 4, 2) := by decide +kernel
theorem dX8_odds_67 : decode cX8_odds 67 = .ok (.iinc 5 1, 3) := by decide +kernel
theorem dX8_odds_70 : decode cX8_odds 70 = .ok (.goto (-44), 3) := by decide +kernel
theorem dX8_odds_73 : decode cX8_odds 73 = .ok (.iload_n 3, 1) := by decide +kernel
theorem dX8_odds_74 : decode cX8_odds 74 = .ok (.ifCond .ne 7, 3) := by decide +kernel
theorem dX8_odds_77 : decode cX8_odds 77 = .ok (.iconst 0, 1) := by decide +kernel
theorem dX8_odds_78 : decode cX8_odds 78 = .ok (.goto 11, 3) := by decide +kernel
theorem dX8_odds_81 : decode cX8_odds 81 = .ok (.ldc_w 299, 3) := by decide +kernel
theorem dX8_odds_84 : decode cX8_odds 84 = .ok (.iload 4, 2) := by decide +kernel
theorem dX8_odds_86 : decode cX8_odds 86 = .ok (.imul, 1) := by decide +kernel
theorem dX8_odds_87 : decode cX8_odds 87 = .ok (.iload_n 3, 1) := by decide +kernel
theorem dX8_odds_88 : decode cX8_odds 88 = .ok (.idiv, 1) := by decide +kernel
theorem dX8_odds_89 : decode cX8_odds 89 = .ok (.ireturn, 1) := by decide +kernel
theorem dX8_back_0 : decode cX8_back 0 = .ok (.aload_n 0, 1) := by decide +kernel
theorem dX8_back_1 : decode cX8_back 1 = .ok (.iload_n 1, 1) := by decide +kernel
theorem dX8_back_2 : decode cX8_back 2 = .ok (.invokevirtual 82, 3) := by decide +kernel
theorem dX8_back_5 : decode cX8_back 5 = .ok (.ifCond .ne 6, 3) := by decide +kernel
theorem dX8_back_8 : decode cX8_back 8 = .ok (.ldc 209, 2) := by decide +kernel
theorem dX8_back_10 : decode cX8_back 10 = .ok (.ireturn, 1) := by decide +kernel
theorem dX8_back_11 : decode cX8_back 11 = .ok (.aload_n 0, 1) := by decide +kernel
theorem dX8_back_12 : decode cX8_back 12 = .ok (.getfield 16, 3) := by decide +kernel
theorem dX8_back_15 : decode cX8_back 15 = .ok (.bipush 13, 2) := by decide +kernel
theorem dX8_back_17 : decode cX8_back 17 = .ok (.iload_n 1, 1) := by decide +kernel
theorem dX8_back_18 : decode cX8_back 18 = .ok (.iadd, 1) := by decide +kernel
theorem dX8_back_19 : decode cX8_back 19 = .ok (.iaload, 1) := by decide +kernel
theorem dX8_back_20 : decode cX8_back 20 = .ok (.ifCond .ge 6, 3) := by decide +kernel
theorem dX8_back_23 : decode cX8_back 23 = .ok (.ldc 231, 2) := by decide +kernel
theorem dX8_back_25 : decode cX8_back 25 = .ok (.ireturn, 1) := by decide +kernel
theorem dX8_back_26 : decode cX8_back 26 = .ok (.iconst 0, 1) := by decide +kernel
theorem dX8_back_27 : decode cX8_back 27 = .ok (.istore_n 2, 1) := by decide +kernel
theorem dX8_back_28 : decode cX8_back 28 = .ok (.iconst 0, 1) := by decide +kernel
theorem dX8_back_29 : decode cX8_back 29 = .ok (.istore_n 3, 1) := by decide +kernel
theorem dX8_back_30 : decode cX8_back 30 = .ok (.iload_n 3, 1) := by decide +kernel
theorem dX8_back_31 : decode cX8_back 31 = .ok (.aload_n 0, 1) := by decide +kernel
theorem dX8_back_32 : decode cX8_back 32 = .ok (.getfield 75, 3) := by decide +kernel
theorem dX8_back_35 : decode cX8_back 35 = .ok (.if_icmp .ge 34, 3) := by decide +kernel
theorem dX8_back_38 : decode cX8_back 38 = .ok (.iload_n 2, 1) := by decide +kernel
theorem dX8_back_39 : decode cX8_back 39 = .ok (.iload_n 3, 1) := by decide +kernel
theorem dX8_back_40 : decode cX8_back 40 = .ok (.iload_n 1, 1) := by decide +kernel
theorem dX8_back_41 : decode cX8_back 41 = .ok (.if_icmp .eq 19, 3) := by decide +kernel
theorem dX8_back_44 : decode cX8_back 44 = .ok (.aload_n 0, 1) := by decide +kernel
theorem dX8_back_45 : decode cX8_back 45 = .ok (.iload_n 3, 1) := by decide +kernel
theorem dX8_back_46 : decode cX8_back 46 = .ok (.invokevirtual 180, 3) := by decide +kernel
theorem dX8_back_49 : decode cX8_back 49 = .ok (.iload_n 1, 1) := by decide +kernel
theorem dX8_back_50 : decode cX8_back 50 = .ok (.invokestatic 256, 3) := by decide +kernel
theorem dX8_back_53 : decode cX8_back 53 = .ok (.ifCond .eq 7, 3) := by decide +kernel
theorem dX8_back_56 : decode cX8_back 56 = .ok (.iconst 1, 1) := by decide +kernel
theorem dX8_back_57 : decode cX8_back 57 = .ok (.goto 4, 3) := by decide +kernel
theorem dX8_back_60 : decode cX8_back 60 = .ok (.iconst 0, 1) := by decide +kernel
theorem dX8_back_61 : decode cX8_back 61 = .ok (.iadd, 1) := by decide +kernel
theorem dX8_back_62 : decode cX8_back 62 = .ok (.istore_n 2, 1) := by decide +kernel
theorem dX8_back_63 : decode cX8_back 63 = .ok (.iinc 3 1, 3) := by decide +kernel
theorem dX8_back_66 : decode cX8_back 66 = .ok (.goto (-36), 3) := by decide +kernel
theorem dX8_back_69 : decode cX8_back 69 = .ok (.iload_n 2, 1) := by decide +kernel
theorem dX8_back_70 : decode cX8_back 70 = .ok (.aload_n 0, 1) := by decide +kernel
theorem dX8_back_71 : decode cX8_back 71 = .ok (.iload_n 1, 1) := by decide +kernel
theorem dX8_back_72 : decode cX8_back 72 = .ok (.invokevirtual 180, 3) := by decide +kernel
theorem dX8_back_75 : decode cX8_back 75 = .ok (.invokestatic 184, 3) := by decide +kernel
theorem dX8_back_78 : decode cX8_back 78 = .ok (.if_icmp .le 7, 3) := by decide +kernel
theorem dX8_back_81 : decode cX8_back 81 = .ok (.iconst 1, 1) := by decide +kernel
theorem dX8_back_82 : decode cX8_back 82 = .ok (.goto 4, 3) := by decide +kernel
theorem dX8_back_85 : decode cX8_back 85 = .ok (.iconst 0, 1) := by decide +kernel
theorem dX8_back_86 : decode cX8_back 86 = .ok (.ireturn, 1) := by decide +kernel
theorem dX8_isTold_0 : decode cX8_isTold 0 = .ok (.iconst 0, 1) := by decide +kernel
theorem dX8_isTold_1 : decode cX8_isTold 1 = .ok (.istore_n 2, 1) := by decide +kernel
theorem dX8_isTold_2 : decode cX8_isTold 2 = .ok (.iconst 0, 1) := by decide +kernel
theorem dX8_isTold_3 : decode cX8_isTold 3 = .ok (.istore_n 3, 1) := by decide +kernel
theorem dX8_isTold_4 : decode cX8_isTold 4 = .ok (.iload_n 3, 1) := by decide +kernel
theorem dX8_isTold_5 : decode cX8_isTold 5 = .ok (.aload_n 0, 1) := by decide +kernel
theorem dX8_isTold_6 : decode cX8_isTold 6 = .ok (.getfield 86, 3) := by decide +kernel
theorem dX8_isTold_9 : decode cX8_isTold 9 = .ok (.if_icmp .ge 41, 3) := by decide +kernel
theorem dX8_isTold_12 : decode cX8_isTold 12 = .ok (.iload_n 2, 1) := by decide +kernel
theorem dX8_isTold_13 : decode cX8_isTold 13 = .ok (.ifCond .ne 25, 3) := by decide +kernel
theorem dX8_isTold_16 : decode cX8_isTold 16 = .ok (.bipush 13, 2) := by decide +kernel
theorem dX8_isTold_18 : decode cX8_isTold 18 = .ok (.aload_n 0, 1) := by decide +kernel
theorem dX8_isTold_19 : decode cX8_isTold 19 = .ok (.getfield 13, 3) := by decide +kernel
theorem dX8_isTold_22 : decode cX8_isTold 22 = .ok (.iload_n 3, 1) := by decide +kernel
theorem dX8_isTold_23 : decode cX8_isTold 23 = .ok (.iaload, 1) := by decide +kernel
theorem dX8_isTold_24 : decode cX8_isTold 24 = .ok (.imul, 1) := by decide +kernel
theorem dX8_isTold_25 : decode cX8_isTold 25 = .ok (.aload_n 0, 1) := by decide +kernel
theorem dX8_isTold_26 : decode cX8_isTold 26 = .ok (.getfield 7, 3) := by decide +kernel
theorem dX8_isTold_29 : decode cX8_isTold 29 = .ok (.iload_n 3, 1) := by decide +kernel
theorem dX8_isTold_30 : decode cX8_isTold 30 = .ok (.iaload, 1) := by decide +kernel
theorem dX8_isTold_31 : decode cX8_isTold 31 = .ok (.iadd, 1) := by decide +kernel
theorem dX8_isTold_32 : decode cX8_isTold 32 = .ok (.iconst 1, 1) := by decide +kernel
theorem dX8_isTold_33 : decode cX8_isTold 33 = .ok (.isub, 1) := by decide +kernel
theorem dX8_isTold_34 : decode cX8_isTold 34 = .ok (.iload_n 1, 1) := by decide +kernel
theorem dX8_isTold_35 : decode cX8_isTold 35 = .ok (.if_icmp .ne 7, 3) := by decide +kernel
theorem dX8_isTold_38 : decode cX8_isTold 38 = .ok (.iconst 1, 1) := by decide +kernel
theorem dX8_isTold_39 : decode cX8_isTold 39 = .ok (.goto 4, 3) := by decide +kernel
theorem dX8_isTold_42 : decode cX8_isTold 42 = .ok (.iconst 0, 1) := by decide +kernel
theorem dX8_isTold_43 : decode cX8_isTold 43 = .ok (.istore_n 2, 1) := by decide +kernel
theorem dX8_isTold_44 : decode cX8_isTold 44 = .ok (.iinc 3 1, 3) := by decide +kernel
theorem dX8_isTold_47 : decode cX8_isTold 47 = .ok (.goto (-43), 3) := by decide +kernel
theorem dX8_isTold_50 : decode cX8_isTold 50 = .ok (.iload_n 2, 1) := by decide +kernel
theorem dX8_isTold_51 : decode cX8_isTold 51 = .ok (.ireturn, 1) := by decide +kernel
theorem dX8_missing_0 : decode cX8_missing 0 = .ok (.aload_n 0, 1) := by decide +kernel
theorem dX8_missing_1 : decode cX8_missing 1 = .ok (.getfield 143, 3) := by decide +kernel
theorem dX8_missing_4 : decode cX8_missing 4 = .ok (.ifCond .ne 6, 3) := by decide +kernel
theorem dX8_missing_7 : decode cX8_missing 7 = .ok (.ldc 231, 2) := by decide +kernel
theorem dX8_missing_9 : decode cX8_missing 9 = .ok (.ireturn, 1) := by decide +kernel
theorem dX8_missing_10 : decode cX8_missing 10 = .ok (.iconst 0, 1) := by decide +kernel
theorem dX8_missing_11 : decode cX8_missing 11 = .ok (.istore_n 2, 1) := by decide +kernel
theorem dX8_missing_12 : decode cX8_missing 12 = .ok (.iconst 0, 1) := by decide +kernel
theorem dX8_missing_13 : decode cX8_missing 13 = .ok (.istore_n 3, 1) := by decide +kernel
theorem dX8_missing_14 : decode cX8_missing 14 = .ok (.iload_n 3, 1) := by decide +kernel
theorem dX8_missing_15 : decode cX8_missing 15 = .ok (.bipush 52, 2) := by decide +kernel
theorem dX8_missing_17 : decode cX8_missing 17 = .ok (.if_icmp .ge 27, 3) := by decide +kernel
theorem dX8_missing_20 : decode cX8_missing 20 = .ok (.aload_n 0, 1) := by decide +kernel
theorem dX8_missing_21 : decode cX8_missing 21 = .ok (.iload_n 3, 1) := by decide +kernel
theorem dX8_missing_22 : decode cX8_missing 22 = .ok (.invokevirtual 300, 3) := by decide +kernel
theorem dX8_missing_25 : decode cX8_missing 25 = .ok (.ifCond .ne 13, 3) := by decide +kernel
theorem dX8_missing_28 : decode cX8_missing 28 = .ok (.iload_n 2, 1) := by decide +kernel
theorem dX8_missing_29 : decode cX8_missing 29 = .ok (.iload_n 1, 1) := by decide +kernel
theorem dX8_missing_30 : decode cX8_missing 30 = .ok (.if_icmp .ne 5, 3) := by decide +kernel
theorem dX8_missing_33 : decode cX8_missing 33 = .ok (.iload_n 3, 1) := by decide +kernel
theorem dX8_missing_34 : decode cX8_missing 34 = .ok (.ireturn, 1) := by decide +kernel
theorem dX8_missing_35 : decode cX8_missing 35 = .ok (.iinc 2 1, 3) := by decide +kernel
theorem dX8_missing_38 : decode cX8_missing 38 = .ok (.iinc 3 1, 3) := by decide +kernel
theorem dX8_missing_41 : decode cX8_missing 41 = .ok (.goto (-27), 3) := by decide +kernel
theorem dX8_missing_44 : decode cX8_missing 44 = .ok (.iload_n 1, 1) := by decide +kernel
theorem dX8_missing_45 : decode cX8_missing 45 = .ok (.iconst (-1), 1) := by decide +kernel
theorem dX8_missing_46 : decode cX8_missing 46 = .ok (.if_icmp .ne 7, 3) := by decide +kernel
theorem dX8_missing_49 : decode cX8_missing 49 = .ok (.iload_n 2, 1) := by decide +kernel
theorem dX8_missing_50 : decode cX8_missing 50 = .ok (.goto 4, 3) := by decide +kernel
theorem dX8_missing_53 : decode cX8_missing 53 = .ok (.iconst (-1), 1) := by decide +kernel
theorem dX8_missing_54 : decode cX8_missing 54 = .ok (.ireturn, 1) := by decide +kernel
theorem dX8_wanted_0 : decode cX8_wanted 0 = .ok (.iload_n 1, 1) := by decide +kernel
theorem dX8_wanted_1 : decode cX8_wanted 1 = .ok (.i2l, 1) := by decide +kernel
theorem dX8_wanted_2 : decode cX8_wanted 2 = .ok (.lconst 0, 1) := by decide +kernel
theorem dX8_wanted_3 : decode cX8_wanted 3 = .ok (.lconst 1, 1) := by decide +kernel
theorem dX8_wanted_4 : decode cX8_wanted 4 = .ok (.invokestatic 78, 3) := by decide +kernel
theorem dX8_wanted_7 : decode cX8_wanted 7 = .ok (.ifCond .ne 6, 3) := by decide +kernel
theorem dX8_wanted_10 : decode cX8_wanted 10 = .ok (.ldc 91, 2) := by decide +kernel
theorem dX8_wanted_12 : decode cX8_wanted 12 = .ok (.ireturn, 1) := by decide +kernel
theorem dX8_wanted_13 : decode cX8_wanted 13 = .ok (.iconst (-1), 1) := by decide +kernel
theorem dX8_wanted_14 : decode cX8_wanted 14 = .ok (.istore_n 2, 1) := by decide +kernel
theorem dX8_wanted_15 : decode cX8_wanted 15 = .ok (.bipush 99, 2) := by decide +kernel
theorem dX8_wanted_17 : decode cX8_wanted 17 = .ok (.istore_n 3, 1) := by decide +kernel
theorem dX8_wanted_18 : decode cX8_wanted 18 = .ok (.iconst 0, 1) := by decide +kernel
theorem dX8_wanted_19 : decode cX8_wanted 19 = .ok (.istore 4, 2) := by decide +kernel
theorem dX8_wanted_21 : decode cX8_wanted 21 = .ok (.iload 4, 2) := by decide +kernel
theorem dX8_wanted_23 : decode cX8_wanted 23 = .ok (.aload_n 0, 1) := by decide +kernel
theorem dX8_wanted_24 : decode cX8_wanted 24 = .ok (.getfield 75, 3) := by decide +kernel
theorem dX8_wanted_27 : decode cX8_wanted 27 = .ok (.if_icmp .ge 46, 3) := by decide +kernel
theorem dX8_wanted_30 : decode cX8_wanted 30 = .ok (.aload_n 0, 1) := by decide +kernel
theorem dX8_wanted_31 : decode cX8_wanted 31 = .ok (.iload 4, 2) := by decide +kernel
theorem dX8_wanted_33 : decode cX8_wanted 33 = .ok (.invokevirtual 180, 3) := by decide +kernel
theorem dX8_wanted_36 : decode cX8_wanted 36 = .ok (.invokestatic 184, 3) := by decide +kernel
theorem dX8_wanted_39 : decode cX8_wanted 39 = .ok (.istore 5, 2) := by decide +kernel
theorem dX8_wanted_41 : decode cX8_wanted 41 = .ok (.iload 5, 2) := by decide +kernel
theorem dX8_wanted_43 : decode cX8_wanted 43 = .ok (.iload_n 3, 1) := by decide +kernel
theorem dX8_wanted_44 : decode cX8_wanted 44 = .ok (.if_icmp .ge 8, 3) := by decide +kernel
theorem dX8_wanted_47 : decode cX8_wanted 47 = .ok (.iload 4, 2) := by decide +kernel
theorem dX8_wanted_49 : decode cX8_wanted 49 = .ok (.goto 4, 3) := by decide +kernel
theorem dX8_wanted_52 : decode cX8_wanted 52 = .ok (.iload_n 2, 1) := by decide +kernel
theorem dX8_wanted_53 : decode cX8_wanted 53 = .ok (.istore_n 2, 1) := by decide +kernel
theorem dX8_wanted_54 : decode cX8_wanted 54 = .ok (.iload 5, 2) := by decide +kernel
theorem dX8_wanted_56 : decode cX8_wanted 56 = .ok (.iload_n 3, 1) := by decide +kernel
theorem dX8_wanted_57 : decode cX8_wanted 57 = .ok (.if_icmp .ge 8, 3) := by decide +kernel
theorem dX8_wanted_60 : decode cX8_wanted 60 = .ok (.iload 5, 2) := by decide +kernel
theorem dX8_wanted_62 : decode cX8_wanted 62 = .ok (.goto 4, 3) := by decide +kernel
theorem dX8_wanted_65 : decode cX8_wanted 65 = .ok (.iload_n 3, 1) := by decide +kernel
theorem dX8_wanted_66 : decode cX8_wanted 66 = .ok (.istore_n 3, 1) := by decide +kernel
theorem dX8_wanted_67 : decode cX8_wanted 67 = .ok (.iinc 4 1, 3) := by decide +kernel
theorem dX8_wanted_70 : decode cX8_wanted 70 = .ok (.goto (-49), 3) := by decide +kernel
theorem dX8_wanted_73 : decode cX8_wanted 73 = .ok (.iload_n 2, 1) := by decide +kernel
theorem dX8_wanted_74 : decode cX8_wanted 74 = .ok (.ifCond .lt 7, 3) := by decide +kernel
theorem dX8_wanted_77 : decode cX8_wanted 77 = .ok (.iload_n 1, 1) := by decide +kernel
theorem dX8_wanted_78 : decode cX8_wanted 78 = .ok (.ifCond .ne 7, 3) := by decide +kernel
theorem dX8_wanted_81 : decode cX8_wanted 81 = .ok (.iload_n 2, 1) := by decide +kernel
theorem dX8_wanted_82 : decode cX8_wanted 82 = .ok (.goto 11, 3) := by decide +kernel
theorem dX8_wanted_85 : decode cX8_wanted 85 = .ok (.aload_n 0, 1) := by decide +kernel
theorem dX8_wanted_86 : decode cX8_wanted 86 = .ok (.getfield 75, 3) := by decide +kernel
theorem dX8_wanted_89 : decode cX8_wanted 89 = .ok (.iconst 1, 1) := by decide +kernel
theorem dX8_wanted_90 : decode cX8_wanted 90 = .ok (.isub, 1) := by decide +kernel
theorem dX8_wanted_91 : decode cX8_wanted 91 = .ok (.iload_n 3, 1) := by decide +kernel
theorem dX8_wanted_92 : decode cX8_wanted 92 = .ok (.isub, 1) := by decide +kernel
theorem dX8_wanted_93 : decode cX8_wanted 93 = .ok (.ireturn, 1) := by decide +kernel
theorem dX8_see_0 : decode cX8_see 0 = .ok (.aload_n 0, 1) := by decide +kernel
theorem dX8_see_1 : decode cX8_see 1 = .ok (.iload_n 1, 1) := by decide +kernel
theorem dX8_see_2 : decode cX8_see 2 = .ok (.iload_n 2, 1) := by decide +kernel
theorem dX8_see_3 : decode cX8_see 3 = .ok (.invokevirtual 242, 3) := by decide +kernel
theorem dX8_see_6 : decode cX8_see 6 = .ok (.ifCond .ne 6, 3) := by decide +kernel
theorem dX8_see_9 : decode cX8_see 9 = .ok (.ldc 209, 2) := by decide +kernel
theorem dX8_see_11 : decode cX8_see 11 = .ok (.ireturn, 1) := by decide +kernel
theorem dX8_see_12 : decode cX8_see 12 = .ok (.iload_n 3, 1) := by decide +kernel
theorem dX8_see_13 : decode cX8_see 13 = .ok (.i2l, 1) := by decide +kernel
theorem dX8_see_14 : decode cX8_see 14 = .ok (.lconst 0, 1) := by decide +kernel
theorem dX8_see_15 : decode cX8_see 15 = .ok (.ldc2_w 216, 3) := by decide +kernel
theorem dX8_see_18 : decode cX8_see 18 = .ok (.invokestatic 78, 3) := by decide +kernel
theorem dX8_see_21 : decode cX8_see 21 = .ok (.ifCond .ne 6, 3) := by decide +kernel
theorem dX8_see_24 : decode cX8_see 24 = .ok (.ldc 91, 2) := by decide +kernel
theorem dX8_see_26 : decode cX8_see 26 = .ok (.ireturn, 1) := by decide +kernel
theorem dX8_see_27 : decode cX8_see 27 = .ok (.aload_n 0, 1) := by decide +kernel
theorem dX8_see_28 : decode cX8_see 28 = .ok (.getfield 161, 3) := by decide +kernel
theorem dX8_see_31 : decode cX8_see 31 = .ok (.bipush 6, 2) := by decide +kernel
theorem dX8_see_33 : decode cX8_see 33 = .ok (.if_icmp .ne 6, 3) := by decide +kernel
theorem dX8_see_36 : decode cX8_see 36 = .ok (.ldc 95, 2) := by decide +kernel
theorem dX8_see_38 : decode cX8_see 38 = .ok (.ireturn, 1) := by decide +kernel
theorem dX8_see_39 : decode cX8_see 39 = .ok (.aload_n 0, 1) := by decide +kernel
theorem dX8_see_40 : decode cX8_see 40 = .ok (.getfield 50, 3) := by decide +kernel
theorem dX8_see_43 : decode cX8_see 43 = .ok (.aload_n 0, 1) := by decide +kernel
theorem dX8_see_44 : decode cX8_see 44 = .ok (.getfield 161, 3) := by decide +kernel
theorem dX8_see_47 : decode cX8_see 47 = .ok (.iload_n 1, 1) := by decide +kernel
theorem dX8_see_48 : decode cX8_see 48 = .ok (.iastore, 1) := by decide +kernel
theorem dX8_see_49 : decode cX8_see 49 = .ok (.aload_n 0, 1) := by decide +kernel
theorem dX8_see_50 : decode cX8_see 50 = .ok (.getfield 53, 3) := by decide +kernel
theorem dX8_see_53 : decode cX8_see 53 = .ok (.aload_n 0, 1) := by decide +kernel
theorem dX8_see_54 : decode cX8_see 54 = .ok (.getfield 161, 3) := by decide +kernel
theorem dX8_see_57 : decode cX8_see 57 = .ok (.iload_n 2, 1) := by decide +kernel
theorem dX8_see_58 : decode cX8_see 58 = .ok (.iastore, 1) := by decide +kernel
theorem dX8_see_59 : decode cX8_see 59 = .ok (.aload_n 0, 1) := by decide +kernel
theorem dX8_see_60 : decode cX8_see 60 = .ok (.getfield 56, 3) := by decide +kernel
theorem dX8_see_63 : decode cX8_see 63 = .ok (.aload_n 0, 1) := by decide +kernel
theorem dX8_see_64 : decode cX8_see 64 = .ok (.getfield 161, 3) := by decide +kernel
theorem dX8_see_67 : decode cX8_see 67 = .ok (.iload_n 3, 1) := by decide +kernel
theorem dX8_see_68 : decode cX8_see 68 = .ok (.iastore, 1) := by decide +kernel
theorem dX8_see_69 : decode cX8_see 69 = .ok (.aload_n 0, 1) := by decide +kernel
theorem dX8_see_70 : decode cX8_see 70 = .ok (.dup, 1) := by decide +kernel
theorem dX8_see_71 : decode cX8_see 71 = .ok (.getfield 161, 3) := by decide +kernel
theorem dX8_see_74 : decode cX8_see 74 = .ok (.iconst 1, 1) := by decide +kernel
theorem dX8_see_75 : decode cX8_see 75 = .ok (.iadd, 1) := by decide +kernel
theorem dX8_see_76 : decode cX8_see 76 = .ok (.putfield 161, 3) := by decide +kernel
theorem dX8_see_79 : decode cX8_see 79 = .ok (.aload_n 0, 1) := by decide +kernel
theorem dX8_see_80 : decode cX8_see 80 = .ok (.getfield 161, 3) := by decide +kernel
theorem dX8_see_83 : decode cX8_see 83 = .ok (.ireturn, 1) := by decide +kernel
theorem dX8_beginDeals_0 : decode cX8_beginDeals 0 = .ok (.aload_n 0, 1) := by decide +kernel
theorem dX8_beginDeals_1 : decode cX8_beginDeals 1 = .ok (.iload_n 1, 1) := by decide +kernel
theorem dX8_beginDeals_2 : decode cX8_beginDeals 2 = .ok (.aload_n 0, 1) := by decide +kernel
theorem dX8_beginDeals_3 : decode cX8_beginDeals 3 = .ok (.getfield 16, 3) := by decide +kernel
theorem dX8_beginDeals_6 : decode cX8_beginDeals 6 = .ok (.bipush 12, 2) := by decide +kernel
theorem dX8_beginDeals_8 : decode cX8_beginDeals 8 = .ok (.iaload, 1) := by decide +kernel
theorem dX8_beginDeals_9 : decode cX8_beginDeals 9 = .ok (.if_icmp .ge 7, 3) := by decide +kernel
theorem dX8_beginDeals_12 : decode cX8_beginDeals 12 = .ok (.iload_n 1, 1) := by decide +kernel
theorem dX8_beginDeals_13 : decode cX8_beginDeals 13 = .ok (.goto 10, 3) := by decide +kernel
theorem dX8_beginDeals_16 : decode cX8_beginDeals 16 = .ok (.aload_n 0, 1) := by decide +kernel
theorem dX8_beginDeals_17 : decode cX8_beginDeals 17 = .ok (.getfield 16, 3) := by decide +kernel
theorem dX8_beginDeals_20 : decode cX8_beginDeals 20 = .ok (.bipush 12, 2) := by decide +kernel
theorem dX8_beginDeals_22 : decode cX8_beginDeals 22 = .ok (.iaload, 1) := by decide +kernel
theorem dX8_beginDeals_23 : decode cX8_beginDeals 23 = .ok (.putfield 303, 3) := by decide +kernel
theorem dX8_beginDeals_26 : decode cX8_beginDeals 26 = .ok (.aload_n 0, 1) := by decide +kernel
theorem dX8_beginDeals_27 : decode cX8_beginDeals 27 = .ok (.aload_n 0, 1) := by decide +kernel
theorem dX8_beginDeals_28 : decode cX8_beginDeals 28 = .ok (.getfield 303, 3) := by decide +kernel
theorem dX8_beginDeals_31 : decode cX8_beginDeals 31 = .ok (.aload_n 0, 1) := by decide +kernel
theorem dX8_beginDeals_32 : decode cX8_beginDeals 32 = .ok (.getfield 75, 3) := by decide +kernel
theorem dX8_beginDeals_35 : decode cX8_beginDeals 35 = .ok (.if_icmp .ge 10, 3) := by decide +kernel
theorem dX8_beginDeals_38 : decode cX8_beginDeals 38 = .ok (.aload_n 0, 1) := by decide +kernel
theorem dX8_beginDeals_39 : decode cX8_beginDeals 39 = .ok (.getfield 303, 3) := by decide +kernel
theorem dX8_beginDeals_42 : decode cX8_beginDeals 42 = .ok (.goto 7, 3) := by decide +kernel
theorem dX8_beginDeals_45 : decode cX8_beginDeals 45 = .ok (.aload_n 0, 1) := by decide +kernel
theorem dX8_beginDeals_46 : decode cX8_beginDeals 46 = .ok (.getfield 75, 3) := by decide +kernel
theorem dX8_beginDeals_49 : decode cX8_beginDeals 49 = .ok (.putfield 306, 3) := by decide +kernel
theorem dX8_beginDeals_52 : decode cX8_beginDeals 52 = .ok (.return_, 1) := by decide +kernel
theorem dX8_dealsBy_0 : decode cX8_dealsBy 0 = .ok (.iconst 0, 1) := by decide +kernel
theorem dX8_dealsBy_1 : decode cX8_dealsBy 1 = .ok (.istore_n 2, 1) := by decide +kernel
theorem dX8_dealsBy_2 : decode cX8_dealsBy 2 = .ok (.iload_n 1, 1) := by decide +kernel
theorem dX8_dealsBy_3 : decode cX8_dealsBy 3 = .ok (.istore_n 3, 1) := by decide +kernel
theorem dX8_dealsBy_4 : decode cX8_dealsBy 4 = .ok (.iconst 0, 1) := by decide +kernel
theorem dX8_dealsBy_5 : decode cX8_dealsBy 5 = .ok (.istore 4, 2) := by decide +kernel
theorem dX8_dealsBy_7 : decode cX8_dealsBy 7 = .ok (.iload 4, 2) := by decide +kernel
theorem dX8_dealsBy_9 : decode cX8_dealsBy 9 = .ok (.bipush 6, 2) := by decide +kernel
theorem dX8_dealsBy_11 : decode cX8_dealsBy 11 = .ok (.if_icmp .ge 17, 3) := by decide +kernel
theorem dX8_dealsBy_14 : decode cX8_dealsBy 14 = .ok (.aload_n 0, 1) := by decide +kernel
theorem dX8_dealsBy_15 : decode cX8_dealsBy 15 = .ok (.getfield 59, 3) := by decide +kernel
theorem dX8_dealsBy_18 : decode cX8_dealsBy 18 = .ok (.iload 4, 2) := by decide +kernel
theorem dX8_dealsBy_20 : decode cX8_dealsBy 20 = .ok (.iconst (-1), 1) := by decide +kernel
theorem dX8_dealsBy_21 : decode cX8_dealsBy 21 = .ok (.iastore, 1) := by decide +kernel
theorem dX8_dealsBy_22 : decode cX8_dealsBy 22 = .ok (.iinc 4 1, 3) := by decide +kernel
theorem dX8_dealsBy_25 : decode cX8_dealsBy 25 = .ok (.goto (-18), 3) := by decide +kernel
theorem dX8_dealsBy_28 : decode cX8_dealsBy 28 = .ok (.aload_n 0, 1) := by decide +kernel
theorem dX8_dealsBy_29 : decode cX8_dealsBy 29 = .ok (.getfield 306, 3) := by decide +kernel
theorem dX8_dealsBy_32 : decode cX8_dealsBy 32 = .ok (.iconst 1, 1) := by decide +kernel
theorem dX8_dealsBy_33 : decode cX8_dealsBy 33 = .ok (.isub, 1) := by decide +kernel
theorem dX8_dealsBy_34 : decode cX8_dealsBy 34 = .ok (.istore 4, 2) := by decide +kernel
theorem dX8_dealsBy_36 : decode cX8_dealsBy 36 = .ok (.iload 4, 2) := by decide +kernel
theorem dX8_dealsBy_38 : decode cX8_dealsBy 38 = .ok (.ifCond .lt 61, 3) := by decide +kernel
theorem dX8_dealsBy_41 : decode cX8_dealsBy 41 = .ok (.iload_n 3, 1) := by decide +kernel
theorem dX8_dealsBy_42 : decode cX8_dealsBy 42 = .ok (.iconst 5, 1) := by decide +kernel
theorem dX8_dealsBy_43 : decode cX8_dealsBy 43 = .ok (.irem, 1) := by decide +kernel
theorem dX8_dealsBy_44 : decode cX8_dealsBy 44 = .ok (.istore 5, 2) := by decide +kernel
theorem dX8_dealsBy_46 : decode cX8_dealsBy 46 = .ok (.iload_n 3, 1) := by decide +kernel
theorem dX8_dealsBy_47 : decode cX8_dealsBy 47 = .ok (.iconst 5, 1) := by decide +kernel
theorem dX8_dealsBy_48 : decode cX8_dealsBy 48 = .ok (.idiv, 1) := by decide +kernel
theorem dX8_dealsBy_49 : decode cX8_dealsBy 49 = .ok (.istore_n 3, 1) := by decide +kernel
theorem dX8_dealsBy_50 : decode cX8_dealsBy 50 = .ok (.iload 5, 2) := by decide +kernel
theorem dX8_dealsBy_52 : decode cX8_dealsBy 52 = .ok (.aload_n 0, 1) := by decide +kernel
theorem dX8_dealsBy_53 : decode cX8_dealsBy 53 = .ok (.getfield 303, 3) := by decide +kernel
theorem dX8_dealsBy_56 : decode cX8_dealsBy 56 = .ok (.if_icmp .ge 12, 3) := by decide +kernel
theorem dX8_dealsBy_59 : decode cX8_dealsBy 59 = .ok (.iload_n 2, 1) := by decide +kernel
theorem dX8_dealsBy_60 : decode cX8_dealsBy 60 = .ok (.iload 5, 2) := by decide +kernel
theorem dX8_dealsBy_62 : decode cX8_dealsBy 62 = .ok (.invokestatic 256, 3) := by decide +kernel
theorem dX8_dealsBy_65 : decode cX8_dealsBy 65 = .ok (.ifCond .eq 5, 3) := by decide +kernel
theorem dX8_dealsBy_68 : decode cX8_dealsBy 68 = .ok (.iconst 0, 1) := by decide +kernel
theorem dX8_dealsBy_69 : decode cX8_dealsBy 69 = .ok (.ireturn, 1) := by decide +kernel
theorem dX8_dealsBy_70 : decode cX8_dealsBy 70 = .ok (.iload_n 2, 1) := by decide +kernel
theorem dX8_dealsBy_71 : decode cX8_dealsBy 71 = .ok (.iconst 1, 1) := by decide +kernel
theorem dX8_dealsBy_72 : decode cX8_dealsBy 72 = .ok (.iload 5, 2) := by decide +kernel
theorem dX8_dealsBy_74 : decode cX8_dealsBy 74 = .ok (.ishl, 1) := by decide +kernel
theorem dX8_dealsBy_75 : decode cX8_dealsBy 75 = .ok (.ior, 1) := by decide +kernel
theorem dX8_dealsBy_76 : decode cX8_dealsBy 76 = .ok (.istore_n 2, 1) := by decide +kernel
theorem dX8_dealsBy_77 : decode cX8_dealsBy 77 = .ok (.aload_n 0, 1) := by decide +kernel
theorem dX8_dealsBy_78 : decode cX8_dealsBy 78 = .ok (.getfield 59, 3) := by decide +kernel
theorem dX8_dealsBy_81 : decode cX8_dealsBy 81 = .ok (.iload 4, 2) := by decide +kernel
theorem dX8_dealsBy_83 : decode cX8_dealsBy 83 = .ok (.aload_n 0, 1) := by decide +kernel
theorem dX8_dealsBy_84 : decode cX8_dealsBy 84 = .ok (.getfield 16, 3) := by decide +kernel
theorem dX8_dealsBy_87 : decode cX8_dealsBy 87 = .ok (.iconst 0, 1) := by decide +kernel
theorem dX8_dealsBy_88 : decode cX8_dealsBy 88 = .ok (.iload 5, 2) := by decide +kernel
theorem dX8_dealsBy_90 : decode cX8_dealsBy 90 = .ok (.iadd, 1) := by decide +kernel
theorem dX8_dealsBy_91 : decode cX8_dealsBy 91 = .ok (.iaload, 1) := by decide +kernel
theorem dX8_dealsBy_92 : decode cX8_dealsBy 92 = .ok (.iastore, 1) := by decide +kernel
theorem dX8_dealsBy_93 : decode cX8_dealsBy 93 = .ok (.iinc 4 (-1), 3) := by decide +kernel
theorem dX8_dealsBy_96 : decode cX8_dealsBy 96 = .ok (.goto (-60), 3) := by decide +kernel
theorem dX8_dealsBy_99 : decode cX8_dealsBy 99 = .ok (.iconst 1, 1) := by decide +kernel
theorem dX8_dealsBy_100 : decode cX8_dealsBy 100 = .ok (.istore 4, 2) := by decide +kernel
theorem dX8_dealsBy_102 : decode cX8_dealsBy 102 = .ok (.iconst 0, 1) := by decide +kernel
theorem dX8_dealsBy_103 : decode cX8_dealsBy 103 = .ok (.istore 5, 2) := by decide +kernel
theorem dX8_dealsBy_105 : decode cX8_dealsBy 105 = .ok (.iload 5, 2) := by decide +kernel
theorem dX8_dealsBy_107 : decode cX8_dealsBy 107 = .ok (.aload_n 0, 1) := by decide +kernel
theorem dX8_dealsBy_108 : decode cX8_dealsBy 108 = .ok (.getfield 161, 3) := by decide +kernel
theorem dX8_dealsBy_111 : decode cX8_dealsBy 111 = .ok (.if_icmp .ge 77, 3) := by decide +kernel
theorem dX8_dealsBy_114 : decode cX8_dealsBy 114 = .ok (.iload 4, 2) := by decide +kernel
theorem dX8_dealsBy_116 : decode cX8_dealsBy 116 = .ok (.ifCond .eq 72, 3) := by decide +kernel
theorem dX8_dealsBy_119 : decode cX8_dealsBy 119 = .ok (.aload_n 0, 1) := by decide +kernel
theorem dX8_dealsBy_120 : decode cX8_dealsBy 120 = .ok (.getfield 59, 3) := by decide +kernel
theorem dX8_dealsBy_123 : decode cX8_dealsBy 123 = .ok (.aload_n 0, 1) := by decide +kernel
theorem dX8_dealsBy_124 : decode cX8_dealsBy 124 = .ok (.getfield 50, 3) := by decide +kernel
theorem dX8_dealsBy_127 : decode cX8_dealsBy 127 = .ok (.iload 5, 2) := by decide +kernel
theorem dX8_dealsBy_129 : decode cX8_dealsBy 129 = .ok (.iaload, 1) := by decide +kernel
theorem dX8_dealsBy_130 : decode cX8_dealsBy 130 = .ok (.iaload, 1) := by decide +kernel
theorem dX8_dealsBy_131 : decode cX8_dealsBy 131 = .ok (.istore 6, 2) := by decide +kernel
theorem dX8_dealsBy_133 : decode cX8_dealsBy 133 = .ok (.aload_n 0, 1) := by decide +kernel
theorem dX8_dealsBy_134 : decode cX8_dealsBy 134 = .ok (.getfield 59, 3) := by decide +kernel
theorem dX8_dealsBy_137 : decode cX8_dealsBy 137 = .ok (.aload_n 0, 1) := by decide +kernel
theorem dX8_dealsBy_138 : decode cX8_dealsBy 138 = .ok (.getfield 53, 3) := by decide +kernel
theorem dX8_dealsBy_141 : decode cX8_dealsBy 141 = .ok (.iload 5, 2) := by decide +kernel
theorem dX8_dealsBy_143 : decode cX8_dealsBy 143 = .ok (.iaload, 1) := by decide +kernel
theorem dX8_dealsBy_144 : decode cX8_dealsBy 144 = .ok (.iaload, 1) := by decide +kernel
theorem dX8_dealsBy_145 : decode cX8_dealsBy 145 = .ok (.istore 7, 2) := by decide +kernel
theorem dX8_dealsBy_147 : decode cX8_dealsBy 147 = .ok (.iload 6, 2) := by decide +kernel
theorem dX8_dealsBy_149 : decode cX8_dealsBy 149 = .ok (.ifCond .lt 30, 3) := by decide +kernel
theorem dX8_dealsBy_152 : decode cX8_dealsBy 152 = .ok (.iload 7, 2) := by decide +kernel
theorem dX8_dealsBy_154 : decode cX8_dealsBy 154 = .ok (.ifCond .lt 25, 3) := by decide +kernel
theorem dX8_dealsBy_157 : decode cX8_dealsBy 157 = .ok (.aload_n 0, 1) := by decide +kernel
theorem dX8_dealsBy_158 : decode cX8_dealsBy 158 = .ok (.iload 6, 2) := by decide +kernel
theorem dX8_dealsBy_160 : decode cX8_dealsBy 160 = .ok (.iload 7, 2) := by decide +kernel
theorem dX8_dealsBy_162 : decode cX8_dealsBy 162 = .ok (.invokevirtual 174, 3) := by decide +kernel
theorem dX8_dealsBy_165 : decode cX8_dealsBy 165 = .ok (.aload_n 0, 1) := by decide +kernel
theorem dX8_dealsBy_166 : decode cX8_dealsBy 166 = .ok (.getfield 56, 3) := by decide +kernel
theorem dX8_dealsBy_169 : decode cX8_dealsBy 169 = .ok (.iload 5, 2) := by decide +kernel
theorem dX8_dealsBy_171 : decode cX8_dealsBy 171 = .ok (.iaload, 1) := by decide +kernel
theorem dX8_dealsBy_172 : decode cX8_dealsBy 172 = .ok (.if_icmp .ne 7, 3) := by decide +kernel
theorem dX8_dealsBy_175 : decode cX8_dealsBy 175 = .ok (.iconst 1, 1) := by decide +kernel
theorem dX8_dealsBy_176 : decode cX8_dealsBy 176 = .ok (.goto 4, 3) := by decide +kernel
theorem dX8_dealsBy_179 : decode cX8_dealsBy 179 = .ok (.iconst 0, 1) := by decide +kernel
theorem dX8_dealsBy_180 : decode cX8_dealsBy 180 = .ok (.istore 4, 2) := by decide +kernel
theorem dX8_dealsBy_182 : decode cX8_dealsBy 182 = .ok (.iinc 5 1, 3) := by decide +kernel
theorem dX8_dealsBy_185 : decode cX8_dealsBy 185 = .ok (.goto (-80), 3) := by decide +kernel
theorem dX8_dealsBy_188 : decode cX8_dealsBy 188 = .ok (.iload 4, 2) := by decide +kernel
theorem dX8_dealsBy_190 : decode cX8_dealsBy 190 = .ok (.ireturn, 1) := by decide +kernel
theorem dX8_deals_0 : decode cX8_deals 0 = .ok (.iload_n 2, 1) := by decide +kernel
theorem dX8_deals_1 : decode cX8_deals 1 = .ok (.iconst (-1), 1) := by decide +kernel
theorem dX8_deals_2 : decode cX8_deals 2 = .ok (.if_icmp .eq 14, 3) := by decide +kernel
theorem dX8_deals_5 : decode cX8_deals 5 = .ok (.aload_n 0, 1) := by decide +kernel
theorem dX8_deals_6 : decode cX8_deals 6 = .ok (.iload_n 2, 1) := by decide +kernel
theorem dX8_deals_7 : decode cX8_deals 7 = .ok (.invokevirtual 82, 3) := by decide +kernel
theorem dX8_deals_10 : decode cX8_deals 10 = .ok (.ifCond .ne 6, 3) := by decide +kernel
theorem dX8_deals_13 : decode cX8_deals 13 = .ok (.ldc 209, 2) := by decide +kernel
theorem dX8_deals_15 : decode cX8_deals 15 = .ok (.ireturn, 1) := by decide +kernel
theorem dX8_deals_16 : decode cX8_deals 16 = .ok (.iload_n 1, 1) := by decide +kernel
theorem dX8_deals_17 : decode cX8_deals 17 = .ok (.i2l, 1) := by decide +kernel
theorem dX8_deals_18 : decode cX8_deals 18 = .ok (.lconst 1, 1) := by decide +kernel
theorem dX8_deals_19 : decode cX8_deals 19 = .ok (.ldc2_w 309, 3) := by decide +kernel
theorem dX8_deals_22 : decode cX8_deals 22 = .ok (.invokestatic 78, 3) := by decide +kernel
theorem dX8_deals_25 : decode cX8_deals 25 = .ok (.ifCond .ne 6, 3) := by decide +kernel
theorem dX8_deals_28 : decode cX8_deals 28 = .ok (.ldc 91, 2) := by decide +kernel
theorem dX8_deals_30 : decode cX8_deals 30 = .ok (.ireturn, 1) := by decide +kernel
theorem dX8_deals_31 : decode cX8_deals 31 = .ok (.aload_n 0, 1) := by decide +kernel
theorem dX8_deals_32 : decode cX8_deals 32 = .ok (.iload_n 1, 1) := by decide +kernel
theorem dX8_deals_33 : decode cX8_deals 33 = .ok (.invokevirtual 311, 3) := by decide +kernel
theorem dX8_deals_36 : decode cX8_deals 36 = .ok (.iconst 0, 1) := by decide +kernel
theorem dX8_deals_37 : decode cX8_deals 37 = .ok (.istore_n 3, 1) := by decide +kernel
theorem dX8_deals_38 : decode cX8_deals 38 = .ok (.iconst (-1), 1) := by decide +kernel
theorem dX8_deals_39 : decode cX8_deals 39 = .ok (.istore 4, 2) := by decide +kernel
theorem dX8_deals_41 : decode cX8_deals 41 = .ok (.iconst 1, 1) := by decide +kernel
theorem dX8_deals_42 : decode cX8_deals 42 = .ok (.istore 5, 2) := by decide +kernel
theorem dX8_deals_44 : decode cX8_deals 44 = .ok (.iconst 0, 1) := by decide +kernel
theorem dX8_deals_45 : decode cX8_deals 45 = .ok (.istore 6, 2) := by decide +kernel
theorem dX8_deals_47 : decode cX8_deals 47 = .ok (.iload 6, 2) := by decide +kernel
theorem dX8_deals_49 : decode cX8_deals 49 = .ok (.iconst 5, 1) := by decide +kernel
theorem dX8_deals_50 : decode cX8_deals 50 = .ok (.aload_n 0, 1) := by decide +kernel
theorem dX8_deals_51 : decode cX8_deals 51 = .ok (.getfield 306, 3) := by decide +kernel
theorem dX8_deals_54 : decode cX8_deals 54 = .ok (.invokestatic 281, 3) := by decide +kernel
theorem dX8_deals_57 : decode cX8_deals 57 = .ok (.if_icmp .ge 65, 3) := by decide +kernel
theorem dX8_deals_60 : decode cX8_deals 60 = .ok (.aload_n 0, 1) := by decide +kernel
theorem dX8_deals_61 : decode cX8_deals 61 = .ok (.iload 6, 2) := by decide +kernel
theorem dX8_deals_63 : decode cX8_deals 63 = .ok (.invokevirtual 314, 3) := by decide +kernel
theorem dX8_deals_66 : decode cX8_deals 66 = .ok (.ifCond .eq 50, 3) := by decide +kernel
theorem dX8_deals_69 : decode cX8_deals 69 = .ok (.iload_n 2, 1) := by decide +kernel
theorem dX8_deals_70 : decode cX8_deals 70 = .ok (.iconst (-1), 1) := by decide +kernel
theorem dX8_deals_71 : decode cX8_deals 71 = .ok (.if_icmp .ne 7, 3) := by decide +kernel
theorem dX8_deals_74 : decode cX8_deals 74 = .ok (.iconst (-1), 1) := by decide +kernel
theorem dX8_deals_75 : decode cX8_deals 75 = .ok (.goto 9, 3) := by decide +kernel
theorem dX8_deals_78 : decode cX8_deals 78 = .ok (.aload_n 0, 1) := by decide +kernel
theorem dX8_deals_79 : decode cX8_deals 79 = .ok (.getfield 59, 3) := by decide +kernel
theorem dX8_deals_82 : decode cX8_deals 82 = .ok (.iload_n 2, 1) := by decide +kernel
theorem dX8_deals_83 : decode cX8_deals 83 = .ok (.iaload, 1) := by decide +kernel
theorem dX8_deals_84 : decode cX8_deals 84 = .ok (.istore 7, 2) := by decide +kernel
theorem dX8_deals_86 : decode cX8_deals 86 = .ok (.iload 5, 2) := by decide +kernel
theorem dX8_deals_88 : decode cX8_deals 88 = .ok (.ifCond .eq 18, 3) := by decide +kernel
theorem dX8_deals_91 : decode cX8_deals 91 = .ok (.iload_n 3, 1) := by decide +kernel
theorem dX8_deals_92 : decode cX8_deals 92 = .ok (.ifCond .eq 10, 3) := by decide +kernel
theorem dX8_deals_95 : decode cX8_deals 95 = .ok (.iload 7, 2) := by decide +kernel
theorem dX8_deals_97 : decode cX8_deals 97 = .ok (.iload 4, 2) := by decide +kernel
theorem dX8_deals_99 : decode cX8_deals 99 = .ok (.if_icmp .ne 7, 3) := by decide +kernel
theorem dX8_deals_102 : decode cX8_deals 102 = .ok (.iconst 1, 1) := by decide +kernel
theorem dX8_deals_103 : decode cX8_deals 103 = .ok (.goto 4, 3) := by decide +kernel
theorem dX8_deals_106 : decode cX8_deals 106 = .ok (.iconst 0, 1) := by decide +kernel
theorem dX8_deals_107 : decode cX8_deals 107 = .ok (.istore 5, 2) := by decide +kernel
theorem dX8_deals_109 : decode cX8_deals 109 = .ok (.iload 7, 2) := by decide +kernel
theorem dX8_deals_111 : decode cX8_deals 111 = .ok (.istore 4, 2) := by decide +kernel
theorem dX8_deals_113 : decode cX8_deals 113 = .ok (.iinc 3 1, 3) := by decide +kernel
theorem dX8_deals_116 : decode cX8_deals 116 = .ok (.iinc 6 1, 3) := by decide +kernel
theorem dX8_deals_119 : decode cX8_deals 119 = .ok (.goto (-72), 3) := by decide +kernel
theorem dX8_deals_122 : decode cX8_deals 122 = .ok (.iload_n 2, 1) := by decide +kernel
theorem dX8_deals_123 : decode cX8_deals 123 = .ok (.iconst (-1), 1) := by decide +kernel
theorem dX8_deals_124 : decode cX8_deals 124 = .ok (.if_icmp .ne 7, 3) := by decide +kernel
theorem dX8_deals_127 : decode cX8_deals 127 = .ok (.iload_n 3, 1) := by decide +kernel
theorem dX8_deals_128 : decode cX8_deals 128 = .ok (.goto 14, 3) := by decide +kernel
theorem dX8_deals_131 : decode cX8_deals 131 = .ok (.iload 5, 2) := by decide +kernel
theorem dX8_deals_133 : decode cX8_deals 133 = .ok (.ifCond .eq 8, 3) := by decide +kernel
theorem dX8_deals_136 : decode cX8_deals 136 = .ok (.iload 4, 2) := by decide +kernel
theorem dX8_deals_138 : decode cX8_deals 138 = .ok (.goto 4, 3) := by decide +kernel
theorem dX8_deals_141 : decode cX8_deals 141 = .ok (.iconst (-1), 1) := by decide +kernel
theorem dX8_deals_142 : decode cX8_deals 142 = .ok (.ireturn, 1) := by decide +kernel
theorem dX8_ask_0 : decode cX8_ask 0 = .ok (.iload_n 1, 1) := by decide +kernel
theorem dX8_ask_1 : decode cX8_ask 1 = .ok (.i2l, 1) := by decide +kernel
theorem dX8_ask_2 : decode cX8_ask 2 = .ok (.lconst 1, 1) := by decide +kernel
theorem dX8_ask_3 : decode cX8_ask 3 = .ok (.ldc2_w 309, 3) := by decide +kernel
theorem dX8_ask_6 : decode cX8_ask 6 = .ok (.invokestatic 78, 3) := by decide +kernel
theorem dX8_ask_9 : decode cX8_ask 9 = .ok (.ifCond .ne 6, 3) := by decide +kernel
theorem dX8_ask_12 : decode cX8_ask 12 = .ok (.ldc 91, 2) := by decide +kernel
theorem dX8_ask_14 : decode cX8_ask 14 = .ok (.ireturn, 1) := by decide +kernel
theorem dX8_ask_15 : decode cX8_ask 15 = .ok (.aload_n 0, 1) := by decide +kernel
theorem dX8_ask_16 : decode cX8_ask 16 = .ok (.iload_n 1, 1) := by decide +kernel
theorem dX8_ask_17 : decode cX8_ask 17 = .ok (.invokevirtual 311, 3) := by decide +kernel
theorem dX8_ask_20 : decode cX8_ask 20 = .ok (.iconst (-1), 1) := by decide +kernel
theorem dX8_ask_21 : decode cX8_ask 21 = .ok (.istore_n 2, 1) := by decide +kernel
theorem dX8_ask_22 : decode cX8_ask 22 = .ok (.aload_n 0, 1) := by decide +kernel
theorem dX8_ask_23 : decode cX8_ask 23 = .ok (.iload_n 1, 1) := by decide +kernel
theorem dX8_ask_24 : decode cX8_ask 24 = .ok (.iconst (-1), 1) := by decide +kernel
theorem dX8_ask_25 : decode cX8_ask 25 = .ok (.invokevirtual 317, 3) := by decide +kernel
theorem dX8_ask_28 : decode cX8_ask 28 = .ok (.istore_n 3, 1) := by decide +kernel
theorem dX8_ask_29 : decode cX8_ask 29 = .ok (.iconst 0, 1) := by decide +kernel
theorem dX8_ask_30 : decode cX8_ask 30 = .ok (.istore 4, 2) := by decide +kernel
theorem dX8_ask_32 : decode cX8_ask 32 = .ok (.iload 4, 2) := by decide +kernel
theorem dX8_ask_34 : decode cX8_ask 34 = .ok (.bipush 36, 2) := by decide +kernel
theorem dX8_ask_36 : decode cX8_ask 36 = .ok (.if_icmp .ge 158, 3) := by decide +kernel
theorem dX8_ask_39 : decode cX8_ask 39 = .ok (.iload 4, 2) := by decide +kernel
theorem dX8_ask_41 : decode cX8_ask 41 = .ok (.bipush 6, 2) := by decide +kernel
theorem dX8_ask_43 : decode cX8_ask 43 = .ok (.idiv, 1) := by decide +kernel
theorem dX8_ask_44 : decode cX8_ask 44 = .ok (.istore 5, 2) := by decide +kernel
theorem dX8_ask_46 : decode cX8_ask 46 = .ok (.iload 4, 2) := by decide +kernel
theorem dX8_ask_48 : decode cX8_ask 48 = .ok (.bipush 6, 2) := by decide +kernel
theorem dX8_ask_50 : decode cX8_ask 50 = .ok (.irem, 1) := by decide +kernel
theorem dX8_ask_51 : decode cX8_ask 51 = .ok (.istore 6, 2) := by decide +kernel
theorem dX8_ask_53 : decode cX8_ask 53 = .ok (.iload 5, 2) := by decide +kernel
theorem dX8_ask_55 : decode cX8_ask 55 = .ok (.iload 6, 2) := by decide +kernel
theorem dX8_ask_57 : decode cX8_ask 57 = .ok (.if_icmp .ge 131, 3) := by decide +kernel
theorem dX8_ask_60 : decode cX8_ask 60 = .ok (.iload 6, 2) := by decide +kernel
theorem dX8_ask_62 : decode cX8_ask 62 = .ok (.aload_n 0, 1) := by decide +kernel
theorem dX8_ask_63 : decode cX8_ask 63 = .ok (.getfield 306, 3) := by decide +kernel
theorem dX8_ask_66 : decode cX8_ask 66 = .ok (.if_icmp .ge 122, 3) := by decide +kernel
theorem dX8_ask_69 : decode cX8_ask 69 = .ok (.iconst 0, 1) := by decide +kernel
theorem dX8_ask_70 : decode cX8_ask 70 = .ok (.istore 7, 2) := by decide +kernel
theorem dX8_ask_72 : decode cX8_ask 72 = .ok (.iload 7, 2) := by decide +kernel
theorem dX8_ask_74 : decode cX8_ask 74 = .ok (.iconst 3, 1) := by decide +kernel
theorem dX8_ask_75 : decode cX8_ask 75 = .ok (.if_icmp .ge 17, 3) := by decide +kernel
theorem dX8_ask_78 : decode cX8_ask 78 = .ok (.aload_n 0, 1) := by decide +kernel
theorem dX8_ask_79 : decode cX8_ask 79 = .ok (.getfield 47, 3) := by decide +kernel
theorem dX8_ask_82 : decode cX8_ask 82 = .ok (.iload 7, 2) := by decide +kernel
theorem dX8_ask_84 : decode cX8_ask 84 = .ok (.iconst 0, 1) := by decide +kernel
theorem dX8_ask_85 : decode cX8_ask 85 = .ok (.iastore, 1) := by decide +kernel
theorem dX8_ask_86 : decode cX8_ask 86 = .ok (.iinc 7 1, 3) := by decide +kernel
theorem dX8_ask_89 : decode cX8_ask 89 = .ok (.goto (-17), 3) := by decide +kernel
theorem dX8_ask_92 : decode cX8_ask 92 = .ok (.iconst 0, 1) := by decide +kernel
theorem dX8_ask_93 : decode cX8_ask 93 = .ok (.istore 7, 2) := by decide +kernel
theorem dX8_ask_95 : decode cX8_ask 95 = .ok (.iload 7, 2) := by decide +kernel
theorem dX8_ask_97 : decode cX8_ask 97 = .ok (.iconst 5, 1) := by decide +kernel
theorem dX8_ask_98 : decode cX8_ask 98 = .ok (.aload_n 0, 1) := by decide +kernel
theorem dX8_ask_99 : decode cX8_ask 99 = .ok (.getfield 306, 3) := by decide +kernel
theorem dX8_ask_102 : decode cX8_ask 102 = .ok (.invokestatic 281, 3) := by decide +kernel
theorem dX8_ask_105 : decode cX8_ask 105 = .ok (.if_icmp .ge 45, 3) := by decide +kernel
theorem dX8_ask_108 : decode cX8_ask 108 = .ok (.aload_n 0, 1) := by decide +kernel
theorem dX8_ask_109 : decode cX8_ask 109 = .ok (.iload 7, 2) := by decide +kernel
theorem dX8_ask_111 : decode cX8_ask 111 = .ok (.invokevirtual 314, 3) := by decide +kernel
theorem dX8_ask_114 : decode cX8_ask 114 = .ok (.ifCond .eq 30, 3) := by decide +kernel
theorem dX8_ask_117 : decode cX8_ask 117 = .ok (.aload_n 0, 1) := by decide +kernel
theorem dX8_ask_118 : decode cX8_ask 118 = .ok (.getfield 47, 3) := by decide +kernel
theorem dX8_ask_121 : decode cX8_ask 121 = .ok (.aload_n 0, 1) := by decide +kernel
theorem dX8_ask_122 : decode cX8_ask 122 = .ok (.aload_n 0, 1) := by decide +kernel
theorem dX8_ask_123 : decode cX8_ask 123 = .ok (.getfield 59, 3) := by decide +kernel
theorem dX8_ask_126 : decode cX8_ask 126 = .ok (.iload 5, 2) := by decide +kernel
theorem dX8_ask_128 : decode cX8_ask 128 = .ok (.iaload, 1) := by decide +kernel
theorem dX8_ask_129 : decode cX8_ask 129 = .ok (.aload_n 0, 1) := by decide +kernel
theorem dX8_ask_130 : decode cX8_ask 130 = .ok (.getfield 59, 3) := by decide +kernel
theorem dX8_ask_133 : decode cX8_ask 133 = .ok (.iload 6, 2) := by decide +kernel
theorem dX8_ask_135 : decode cX8_ask 135 = .ok (.iaload, 1) := by decide +kernel
theorem dX8_ask_136 : decode cX8_ask 136 = .ok (.invokevirtual 174, 3) := by decide +kernel
theorem dX8_ask_139 : decode cX8_ask 139 = .ok (.dup2, 1) := by decide +kernel
theorem dX8_ask_140 : decode cX8_ask 140 = .ok (.iaload, 1) := by decide +kernel
theorem dX8_ask_141 : decode cX8_ask 141 = .ok (.iconst 1, 1) := by decide +kernel
theorem dX8_ask_142 : decode cX8_ask 142 = .ok (.iadd, 1) := by decide +kernel
theorem dX8_ask_143 : decode cX8_ask 143 = .ok (.iastore, 1) := by decide +kernel
theorem dX8_ask_144 : decode cX8_ask 144 = .ok (.iinc 7 1, 3) := by decide +kernel
theorem dX8_ask_147 : decode cX8_ask 147 = .ok (.goto (-52), 3) := by decide +kernel
theorem dX8_ask_150 : decode cX8_ask 150 = .ok (.aload_n 0, 1) := by decide +kernel
theorem dX8_ask_151 : decode cX8_ask 151 = .ok (.invokevirtual 296, 3) := by decide +kernel
theorem dX8_ask_154 : decode cX8_ask 154 = .ok (.istore 7, 2) := by decide +kernel
theorem dX8_ask_156 : decode cX8_ask 156 = .ok (.iload 7, 2) := by decide +kernel
theorem dX8_ask_158 : decode cX8_ask 158 = .ok (.iload_n 3, 1) := by decide +kernel
theorem dX8_ask_159 : decode cX8_ask 159 = .ok (.if_icmp .ge 14, 3) := by decide +kernel
theorem dX8_ask_162 : decode cX8_ask 162 = .ok (.bipush 10, 2) := by decide +kernel
theorem dX8_ask_164 : decode cX8_ask 164 = .ok (.iload 5, 2) := by decide +kernel
theorem dX8_ask_166 : decode cX8_ask 166 = .ok (.imul, 1) := by decide +kernel
theorem dX8_ask_167 : decode cX8_ask 167 = .ok (.iload 6, 2) := by decide +kernel
theorem dX8_ask_169 : decode cX8_ask 169 = .ok (.iadd, 1) := by decide +kernel
theorem dX8_ask_170 : decode cX8_ask 170 = .ok (.goto 4, 3) := by decide +kernel
theorem dX8_ask_173 : decode cX8_ask 173 = .ok (.iload_n 2, 1) := by decide +kernel
theorem dX8_ask_174 : decode cX8_ask 174 = .ok (.istore_n 2, 1) := by decide +kernel
theorem dX8_ask_175 : decode cX8_ask 175 = .ok (.iload 7, 2) := by decide +kernel
theorem dX8_ask_177 : decode cX8_ask 177 = .ok (.iload_n 3, 1) := by decide +kernel
theorem dX8_ask_178 : decode cX8_ask 178 = .ok (.if_icmp .ge 8, 3) := by decide +kernel
theorem dX8_ask_181 : decode cX8_ask 181 = .ok (.iload 7, 2) := by decide +kernel
theorem dX8_ask_183 : decode cX8_ask 183 = .ok (.goto 4, 3) := by decide +kernel
theorem dX8_ask_186 : decode cX8_ask 186 = .ok (.iload_n 3, 1) := by decide +kernel
theorem dX8_ask_187 : decode cX8_ask 187 = .ok (.istore_n 3, 1) := by decide +kernel
theorem dX8_ask_188 : decode cX8_ask 188 = .ok (.iinc 4 1, 3) := by decide +kernel
theorem dX8_ask_191 : decode cX8_ask 191 = .ok (.goto (-159), 3) := by decide +kernel
theorem dX8_ask_194 : decode cX8_ask 194 = .ok (.iload_n 2, 1) := by decide +kernel
theorem dX8_ask_195 : decode cX8_ask 195 = .ok (.ireturn, 1) := by decide +kernel
theorem dX8_write_0 : decode cX8_write 0 = .ok (.aload_n 0, 1) := by decide +kernel
theorem dX8_write_1 : decode cX8_write 1 = .ok (.iload_n 1, 1) := by decide +kernel
theorem dX8_write_2 : decode cX8_write 2 = .ok (.invokevirtual 82, 3) := by decide +kernel
theorem dX8_write_5 : decode cX8_write 5 = .ok (.ifCond .eq 16, 3) := by decide +kernel
theorem dX8_write_8 : decode cX8_write 8 = .ok (.iload_n 2, 1) := by decide +kernel
theorem dX8_write_9 : decode cX8_write 9 = .ok (.iconst (-1), 1) := by decide +kernel
theorem dX8_write_10 : decode cX8_write 10 = .ok (.if_icmp .eq 14, 3) := by decide +kernel
theorem dX8_write_13 : decode cX8_write 13 = .ok (.aload_n 0, 1) := by decide +kernel
theorem dX8_write_14 : decode cX8_write 14 = .ok (.iload_n 2, 1) := by decide +kernel
theorem dX8_write_15 : decode cX8_write 15 = .ok (.invokevirtual 206, 3) := by decide +kernel
theorem dX8_write_18 : decode cX8_write 18 = .ok (.ifCond .ne 6, 3) := by decide +kernel
theorem dX8_write_21 : decode cX8_write 21 = .ok (.ldc 209, 2) := by decide +kernel
theorem dX8_write_23 : decode cX8_write 23 = .ok (.ireturn, 1) := by decide +kernel
theorem dX8_write_24 : decode cX8_write 24 = .ok (.aload_n 0, 1) := by decide +kernel
theorem dX8_write_25 : decode cX8_write 25 = .ok (.getfield 164, 3) := by decide +kernel
theorem dX8_write_28 : decode cX8_write 28 = .ok (.bipush 15, 2) := by decide +kernel
theorem dX8_write_30 : decode cX8_write 30 = .ok (.if_icmp .ne 6, 3) := by decide +kernel
theorem dX8_write_33 : decode cX8_write 33 = .ok (.ldc 95, 2) := by decide +kernel
theorem dX8_write_35 : decode cX8_write 35 = .ok (.ireturn, 1) := by decide +kernel
theorem dX8_write_36 : decode cX8_write 36 = .ok (.aload_n 0, 1) := by decide +kernel
theorem dX8_write_37 : decode cX8_write 37 = .ok (.getfield 62, 3) := by decide +kernel
theorem dX8_write_40 : decode cX8_write 40 = .ok (.aload_n 0, 1) := by decide +kernel
theorem dX8_write_41 : decode cX8_write 41 = .ok (.getfield 164, 3) := by decide +kernel
theorem dX8_write_44 : decode cX8_write 44 = .ok (.iload_n 1, 1) := by decide +kernel
theorem dX8_write_45 : decode cX8_write 45 = .ok (.iastore, 1) := by decide +kernel
theorem dX8_write_46 : decode cX8_write 46 = .ok (.aload_n 0, 1) := by decide +kernel
theorem dX8_write_47 : decode cX8_write 47 = .ok (.getfield 65, 3) := by decide +kernel
theorem dX8_write_50 : decode cX8_write 50 = .ok (.aload_n 0, 1) := by decide +kernel
theorem dX8_write_51 : decode cX8_write 51 = .ok (.getfield 164, 3) := by decide +kernel
theorem dX8_write_54 : decode cX8_write 54 = .ok (.iload_n 2, 1) := by decide +kernel
theorem dX8_write_55 : decode cX8_write 55 = .ok (.iastore, 1) := by decide +kernel
theorem dX8_write_56 : decode cX8_write 56 = .ok (.aload_n 0, 1) := by decide +kernel
theorem dX8_write_57 : decode cX8_write 57 = .ok (.dup, 1) := by decide +kernel
theorem dX8_write_58 : decode cX8_write 58 = .ok (.getfield 164, 3) := by decide +kernel
theorem dX8_write_61 : decode cX8_write 61 = .ok (.iconst 1, 1) := by decide +kernel
theorem dX8_write_62 : decode cX8_write 62 = .ok (.iadd, 1) := by decide +kernel
theorem dX8_write_63 : decode cX8_write 63 = .ok (.putfield 164, 3) := by decide +kernel
theorem dX8_write_66 : decode cX8_write 66 = .ok (.aload_n 0, 1) := by decide +kernel
theorem dX8_write_67 : decode cX8_write 67 = .ok (.getfield 164, 3) := by decide +kernel
theorem dX8_write_70 : decode cX8_write 70 = .ok (.ireturn, 1) := by decide +kernel
theorem dX8_tear_0 : decode cX8_tear 0 = .ok (.aload_n 0, 1) := by decide +kernel
theorem dX8_tear_1 : decode cX8_tear 1 = .ok (.getfield 161, 3) := by decide +kernel
theorem dX8_tear_4 : decode cX8_tear 4 = .ok (.aload_n 0, 1) := by decide +kernel
theorem dX8_tear_5 : decode cX8_tear 5 = .ok (.getfield 164, 3) := by decide +kernel
theorem dX8_tear_8 : decode cX8_tear 8 = .ok (.iadd, 1) := by decide +kernel
theorem dX8_tear_9 : decode cX8_tear 9 = .ok (.istore_n 1, 1) := by decide +kernel
theorem dX8_tear_10 : decode cX8_tear 10 = .ok (.aload_n 0, 1) := by decide +kernel
theorem dX8_tear_11 : decode cX8_tear 11 = .ok (.iconst 0, 1) := by decide +kernel
theorem dX8_tear_12 : decode cX8_tear 12 = .ok (.putfield 161, 3) := by decide +kernel
theorem dX8_tear_15 : decode cX8_tear 15 = .ok (.aload_n 0, 1) := by decide +kernel
theorem dX8_tear_16 : decode cX8_tear 16 = .ok (.iconst 0, 1) := by decide +kernel
theorem dX8_tear_17 : decode cX8_tear 17 = .ok (.putfield 164, 3) := by decide +kernel
theorem dX8_tear_20 : decode cX8_tear 20 = .ok (.iload_n 1, 1) := by decide +kernel
theorem dX8_tear_21 : decode cX8_tear 21 = .ok (.ireturn, 1) := by decide +kernel
theorem dX8_judge_0 : decode cX8_judge 0 = .ok (.iconst 0, 1) := by decide +kernel
theorem dX8_judge_1 : decode cX8_judge 1 = .ok (.istore_n 1, 1) := by decide +kernel
theorem dX8_judge_2 : decode cX8_judge 2 = .ok (.iload_n 1, 1) := by decide +kernel
theorem dX8_judge_3 : decode cX8_judge 3 = .ok (.aload_n 0, 1) := by decide +kernel
theorem dX8_judge_4 : decode cX8_judge 4 = .ok (.getfield 164, 3) := by decide +kernel
theorem dX8_judge_7 : decode cX8_judge 7 = .ok (.if_icmp .ge 34, 3) := by decide +kernel
theorem dX8_judge_10 : decode cX8_judge 10 = .ok (.aload_n 0, 1) := by decide +kernel
theorem dX8_judge_11 : decode cX8_judge 11 = .ok (.getfield 16, 3) := by decide +kernel
theorem dX8_judge_14 : decode cX8_judge 14 = .ok (.bipush 13, 2) := by decide +kernel
theorem dX8_judge_16 : decode cX8_judge 16 = .ok (.aload_n 0, 1) := by decide +kernel
theorem dX8_judge_17 : decode cX8_judge 17 = .ok (.getfield 62, 3) := by decide +kernel
theorem dX8_judge_20 : decode cX8_judge 20 = .ok (.iload_n 1, 1) := by decide +kernel
theorem dX8_judge_21 : decode cX8_judge 21 = .ok (.iaload, 1) := by decide +kernel
theorem dX8_judge_22 : decode cX8_judge 22 = .ok (.iadd, 1) := by decide +kernel
theorem dX8_judge_23 : decode cX8_judge 23 = .ok (.iaload, 1) := by decide +kernel
theorem dX8_judge_24 : decode cX8_judge 24 = .ok (.aload_n 0, 1) := by decide +kernel
theorem dX8_judge_25 : decode cX8_judge 25 = .ok (.getfield 65, 3) := by decide +kernel
theorem dX8_judge_28 : decode cX8_judge 28 = .ok (.iload_n 1, 1) := by decide +kernel
theorem dX8_judge_29 : decode cX8_judge 29 = .ok (.iaload, 1) := by decide +kernel
theorem dX8_judge_30 : decode cX8_judge 30 = .ok (.if_icmp .eq 5, 3) := by decide +kernel
theorem dX8_judge_33 : decode cX8_judge 33 = .ok (.iload_n 1, 1) := by decide +kernel
theorem dX8_judge_34 : decode cX8_judge 34 = .ok (.ireturn, 1) := by decide +kernel
theorem dX8_judge_35 : decode cX8_judge 35 = .ok (.iinc 1 1, 3) := by decide +kernel
theorem dX8_judge_38 : decode cX8_judge 38 = .ok (.goto (-36), 3) := by decide +kernel
theorem dX8_judge_41 : decode cX8_judge 41 = .ok (.iconst (-1), 1) := by decide +kernel
theorem dX8_judge_42 : decode cX8_judge 42 = .ok (.ireturn, 1) := by decide +kernel
theorem dX8_seed_0 : decode cX8_seed 0 = .ok (.iload_n 1, 1) := by decide +kernel
theorem dX8_seed_1 : decode cX8_seed 1 = .ok (.ifCond .ge 6, 3) := by decide +kernel
theorem dX8_seed_4 : decode cX8_seed 4 = .ok (.ldc 91, 2) := by decide +kernel
theorem dX8_seed_6 : decode cX8_seed 6 = .ok (.ireturn, 1) := by decide +kernel
theorem dX8_seed_7 : decode cX8_seed 7 = .ok (.aload_n 0, 1) := by decide +kernel
theorem dX8_seed_8 : decode cX8_seed 8 = .ok (.getfield 259, 3) := by decide +kernel
theorem dX8_seed_11 : decode cX8_seed 11 = .ok (.istore_n 2, 1) := by decide +kernel
theorem dX8_seed_12 : decode cX8_seed 12 = .ok (.aload_n 0, 1) := by decide +kernel
theorem dX8_seed_13 : decode cX8_seed 13 = .ok (.iload_n 1, 1) := by decide +kernel
theorem dX8_seed_14 : decode cX8_seed 14 = .ok (.putfield 259, 3) := by decide +kernel
theorem dX8_seed_17 : decode cX8_seed 17 = .ok (.iload_n 2, 1) := by decide +kernel
theorem dX8_seed_18 : decode cX8_seed 18 = .ok (.ireturn, 1) := by decide +kernel
theorem dX8_keep_0 : decode cX8_keep 0 = .ok (.iload_n 1, 1) := by decide +kernel
theorem dX8_keep_1 : decode cX8_keep 1 = .ok (.i2l, 1) := by decide +kernel
theorem dX8_keep_2 : decode cX8_keep 2 = .ok (.lconst 0, 1) := by decide +kernel
theorem dX8_keep_3 : decode cX8_keep 3 = .ok (.lconst 1, 1) := by decide +kernel
theorem dX8_keep_4 : decode cX8_keep 4 = .ok (.invokestatic 78, 3) := by decide +kernel
theorem dX8_keep_7 : decode cX8_keep 7 = .ok (.ifCond .ne 6, 3) := by decide +kernel
theorem dX8_keep_10 : decode cX8_keep 10 = .ok (.ldc 209, 2) := by decide +kernel
theorem dX8_keep_12 : decode cX8_keep 12 = .ok (.ireturn, 1) := by decide +kernel
theorem dX8_keep_13 : decode cX8_keep 13 = .ok (.iconst 0, 1) := by decide +kernel
theorem dX8_keep_14 : decode cX8_keep 14 = .ok (.istore_n 2, 1) := by decide +kernel
theorem dX8_keep_15 : decode cX8_keep 15 = .ok (.iload_n 2, 1) := by decide +kernel
theorem dX8_keep_16 : decode cX8_keep 16 = .ok (.bipush 51, 2) := by decide +kernel
theorem dX8_keep_18 : decode cX8_keep 18 = .ok (.if_icmp .ge 26, 3) := by decide +kernel
theorem dX8_keep_21 : decode cX8_keep 21 = .ok (.aload_n 0, 1) := by decide +kernel
theorem dX8_keep_22 : decode cX8_keep 22 = .ok (.getfield 68, 3) := by decide +kernel
theorem dX8_keep_25 : decode cX8_keep 25 = .ok (.bipush 52, 2) := by decide +kernel
theorem dX8_keep_27 : decode cX8_keep 27 = .ok (.iload_n 1, 1) := by decide +kernel
theorem dX8_keep_28 : decode cX8_keep 28 = .ok (.imul, 1) := by decide +kernel
theorem dX8_keep_29 : decode cX8_keep 29 = .ok (.iload_n 2, 1) := by decide +kernel
theorem dX8_keep_30 : decode cX8_keep 30 = .ok (.iadd, 1) := by decide +kernel
theorem dX8_keep_31 : decode cX8_keep 31 = .ok (.aload_n 0, 1) := by decide +kernel
theorem dX8_keep_32 : decode cX8_keep 32 = .ok (.getfield 16, 3) := by decide +kernel
theorem dX8_keep_35 : decode cX8_keep 35 = .ok (.iload_n 2, 1) := by decide +kernel
theorem dX8_keep_36 : decode cX8_keep 36 = .ok (.iaload, 1) := by decide +kernel
theorem dX8_keep_37 : decode cX8_keep 37 = .ok (.iastore, 1) := by decide +kernel
theorem dX8_keep_38 : decode cX8_keep 38 = .ok (.iinc 2 1, 3) := by decide +kernel
theorem dX8_keep_41 : decode cX8_keep 41 = .ok (.goto (-26), 3) := by decide +kernel
theorem dX8_keep_44 : decode cX8_keep 44 = .ok (.aload_n 0, 1) := by decide +kernel
theorem dX8_keep_45 : decode cX8_keep 45 = .ok (.getfield 68, 3) := by decide +kernel
theorem dX8_keep_48 : decode cX8_keep 48 = .ok (.bipush 52, 2) := by decide +kernel
theorem dX8_keep_50 : decode cX8_keep 50 = .ok (.iload_n 1, 1) := by decide +kernel
theorem dX8_keep_51 : decode cX8_keep 51 = .ok (.imul, 1) := by decide +kernel
theorem dX8_keep_52 : decode cX8_keep 52 = .ok (.bipush 51, 2) := by decide +kernel
theorem dX8_keep_54 : decode cX8_keep 54 = .ok (.iadd, 1) := by decide +kernel
theorem dX8_keep_55 : decode cX8_keep 55 = .ok (.aload_n 0, 1) := by decide +kernel
theorem dX8_keep_56 : decode cX8_keep 56 = .ok (.getfield 259, 3) := by decide +kernel
theorem dX8_keep_59 : decode cX8_keep 59 = .ok (.iastore, 1) := by decide +kernel
theorem dX8_keep_60 : decode cX8_keep 60 = .ok (.aload_n 0, 1) := by decide +kernel
theorem dX8_keep_61 : decode cX8_keep 61 = .ok (.getfield 71, 3) := by decide +kernel
theorem dX8_keep_64 : decode cX8_keep 64 = .ok (.iload_n 1, 1) := by decide +kernel
theorem dX8_keep_65 : decode cX8_keep 65 = .ok (.iconst 1, 1) := by decide +kernel
theorem dX8_keep_66 : decode cX8_keep 66 = .ok (.bastore, 1) := by decide +kernel
theorem dX8_keep_67 : decode cX8_keep 67 = .ok (.aload_n 0, 1) := by decide +kernel
theorem dX8_keep_68 : decode cX8_keep 68 = .ok (.iconst 0, 1) := by decide +kernel
theorem dX8_keep_69 : decode cX8_keep 69 = .ok (.putfield 167, 3) := by decide +kernel
theorem dX8_keep_72 : decode cX8_keep 72 = .ok (.iconst 1, 1) := by decide +kernel
theorem dX8_keep_73 : decode cX8_keep 73 = .ok (.ireturn, 1) := by decide +kernel
theorem dX8_goBack_0 : decode cX8_goBack 0 = .ok (.iload_n 1, 1) := by decide +kernel
theorem dX8_goBack_1 : decode cX8_goBack 1 = .ok (.i2l, 1) := by decide +kernel
theorem dX8_goBack_2 : decode cX8_goBack 2 = .ok (.lconst 0, 1) := by decide +kernel
theorem dX8_goBack_3 : decode cX8_goBack 3 = .ok (.lconst 1, 1) := by decide +kernel
theorem dX8_goBack_4 : decode cX8_goBack 4 = .ok (.invokestatic 78, 3) := by decide +kernel
theorem dX8_goBack_7 : decode cX8_goBack 7 = .ok (.ifCond .ne 6, 3) := by decide +kernel
theorem dX8_goBack_10 : decode cX8_goBack 10 = .ok (.ldc 209, 2) := by decide +kernel
theorem dX8_goBack_12 : decode cX8_goBack 12 = .ok (.ireturn, 1) := by decide +kernel
theorem dX8_goBack_13 : decode cX8_goBack 13 = .ok (.aload_n 0, 1) := by decide +kernel
theorem dX8_goBack_14 : decode cX8_goBack 14 = .ok (.getfield 71, 3) := by decide +kernel
theorem dX8_goBack_17 : decode cX8_goBack 17 = .ok (.iload_n 1, 1) := by decide +kernel
theorem dX8_goBack_18 : decode cX8_goBack 18 = .ok (.baload, 1) := by decide +kernel
theorem dX8_goBack_19 : decode cX8_goBack 19 = .ok (.ifCond .ne 6, 3) := by decide +kernel
theorem dX8_goBack_22 : decode cX8_goBack 22 = .ok (.ldc 231, 2) := by decide +kernel
theorem dX8_goBack_24 : decode cX8_goBack 24 = .ok (.ireturn, 1) := by decide +kernel
theorem dX8_goBack_25 : decode cX8_goBack 25 = .ok (.iconst 0, 1) := by decide +kernel
theorem dX8_goBack_26 : decode cX8_goBack 26 = .ok (.istore_n 2, 1) := by decide +kernel
theorem dX8_goBack_27 : decode cX8_goBack 27 = .ok (.iload_n 2, 1) := by decide +kernel
theorem dX8_goBack_28 : decode cX8_goBack 28 = .ok (.bipush 51, 2) := by decide +kernel
theorem dX8_goBack_30 : decode cX8_goBack 30 = .ok (.if_icmp .ge 26, 3) := by decide +kernel
theorem dX8_goBack_33 : decode cX8_goBack 33 = .ok (.aload_n 0, 1) := by decide +kernel
theorem dX8_goBack_34 : decode cX8_goBack 34 = .ok (.getfield 16, 3) := by decide +kernel
theorem dX8_goBack_37 : decode cX8_goBack 37 = .ok (.iload_n 2, 1) := by decide +kernel
theorem dX8_goBack_38 : decode cX8_goBack 38 = .ok (.aload_n 0, 1) := by decide +kernel
theorem dX8_goBack_39 : decode cX8_goBack 39 = .ok (.getfield 68, 3) := by decide +kernel
theorem dX8_goBack_42 : decode cX8_goBack 42 = .ok (.bipush 52, 2) := by decide +kernel
theorem dX8_goBack_44 : decode cX8_goBack 44 = .ok (.iload_n 1, 1) := by decide +kernel
theorem dX8_goBack_45 : decode cX8_goBack 45 = .ok (.imul, 1) := by decide +kernel
theorem dX8_goBack_46 : decode cX8_goBack 46 = .ok (.iload_n 2, 1) := by decide +kernel
theorem dX8_goBack_47 : decode cX8_goBack 47 = .ok (.iadd, 1) := by decide +kernel
theorem dX8_goBack_48 : decode cX8_goBack 48 = .ok (.iaload, 1) := by decide +kernel
theorem dX8_goBack_49 : decode cX8_goBack 49 = .ok (.iastore, 1) := by decide +kernel
theorem dX8_goBack_50 : decode cX8_goBack 50 = .ok (.iinc 2 1, 3) := by decide +kernel
theorem dX8_goBack_53 : decode cX8_goBack 53 = .ok (.goto (-26), 3) := by decide +kernel
theorem dX8_goBack_56 : decode cX8_goBack 56 = .ok (.aload_n 0, 1) := by decide +kernel
theorem dX8_goBack_57 : decode cX8_goBack 57 = .ok (.aload_n 0, 1) := by decide +kernel
theorem dX8_goBack_58 : decode cX8_goBack 58 = .ok (.getfield 68, 3) := by decide +kernel
theorem dX8_goBack_61 : decode cX8_goBack 61 = .ok (.bipush 52, 2) := by decide +kernel
theorem dX8_goBack_63 : decode cX8_goBack 63 = .ok (.iload_n 1, 1) := by decide +kernel
theorem dX8_goBack_64 : decode cX8_goBack 64 = .ok (.imul, 1) := by decide +kernel
theorem dX8_goBack_65 : decode cX8_goBack 65 = .ok (.bipush 51, 2) := by decide +kernel
theorem dX8_goBack_67 : decode cX8_goBack 67 = .ok (.iadd, 1) := by decide +kernel
theorem dX8_goBack_68 : decode cX8_goBack 68 = .ok (.iaload, 1) := by decide +kernel
theorem dX8_goBack_69 : decode cX8_goBack 69 = .ok (.putfield 259, 3) := by decide +kernel
theorem dX8_goBack_72 : decode cX8_goBack 72 = .ok (.aload_n 0, 1) := by decide +kernel
theorem dX8_goBack_73 : decode cX8_goBack 73 = .ok (.iconst 0, 1) := by decide +kernel
theorem dX8_goBack_74 : decode cX8_goBack 74 = .ok (.putfield 167, 3) := by decide +kernel
theorem dX8_goBack_77 : decode cX8_goBack 77 = .ok (.iconst 1, 1) := by decide +kernel
theorem dX8_goBack_78 : decode cX8_goBack 78 = .ok (.ireturn, 1) := by decide +kernel
