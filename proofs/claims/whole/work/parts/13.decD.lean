theorem dX7_deals_52 : decode cX7_deals 52 = .ok (.iload_n 2, 1) := by decide +kernel
theorem dX7_deals_53 : decode cX7_deals 53 = .ok (.iconst (-1), 1) := by decide +kernel
theorem dX7_deals_54 : decode cX7_deals 54 = .ok (.if_icmp .ne 13, 3) := by decide +kernel
theorem dX7_deals_57 : decode cX7_deals 57 = .ok (.aload_n 0, 1) := by decide +kernel
theorem dX7_deals_58 : decode cX7_deals 58 = .ok (.getfield 54, 3) := by decide +kernel
theorem dX7_deals_61 : decode cX7_deals 61 = .ok (.getfield 286, 3) := by decide +kernel
theorem dX7_deals_64 : decode cX7_deals 64 = .ok (.goto 11, 3) := by decide +kernel
theorem dX7_deals_67 : decode cX7_deals 67 = .ok (.aload_n 0, 1) := by decide +kernel
theorem dX7_deals_68 : decode cX7_deals 68 = .ok (.getfield 54, 3) := by decide +kernel
theorem dX7_deals_71 : decode cX7_deals 71 = .ok (.iload_n 2, 1) := by decide +kernel
theorem dX7_deals_72 : decode cX7_deals 72 = .ok (.invokevirtual 289, 3) := by decide +kernel
theorem dX7_deals_75 : decode cX7_deals 75 = .ok (.ireturn, 1) := by decide +kernel
theorem dX7_ask_0 : decode cX7_ask 0 = .ok (.iload_n 1, 1) := by decide +kernel
theorem dX7_ask_1 : decode cX7_ask 1 = .ok (.iconst 1, 1) := by decide +kernel
theorem dX7_ask_2 : decode cX7_ask 2 = .ok (.if_icmp .lt 8, 3) := by decide +kernel
theorem dX7_ask_5 : decode cX7_ask 5 = .ok (.iload_n 1, 1) := by decide +kernel
theorem dX7_ask_6 : decode cX7_ask 6 = .ok (.iconst 5, 1) := by decide +kernel
theorem dX7_ask_7 : decode cX7_ask 7 = .ok (.if_icmp .le 6, 3) := by decide +kernel
theorem dX7_ask_10 : decode cX7_ask 10 = .ok (.ldc 65, 2) := by decide +kernel
theorem dX7_ask_12 : decode cX7_ask 12 = .ok (.ireturn, 1) := by decide +kernel
theorem dX7_ask_13 : decode cX7_ask 13 = .ok (.aload_n 0, 1) := by decide +kernel
theorem dX7_ask_14 : decode cX7_ask 14 = .ok (.getfield 54, 3) := by decide +kernel
theorem dX7_ask_17 : decode cX7_ask 17 = .ok (.iload_n 1, 1) := by decide +kernel
theorem dX7_ask_18 : decode cX7_ask 18 = .ok (.aload_n 0, 1) := by decide +kernel
theorem dX7_ask_19 : decode cX7_ask 19 = .ok (.getfield 26, 3) := by decide +kernel
theorem dX7_ask_22 : decode cX7_ask 22 = .ok (.aload_n 0, 1) := by decide +kernel
theorem dX7_ask_23 : decode cX7_ask 23 = .ok (.getfield 33, 3) := by decide +kernel
theorem dX7_ask_26 : decode cX7_ask 26 = .ok (.aload_n 0, 1) := by decide +kernel
theorem dX7_ask_27 : decode cX7_ask 27 = .ok (.getfield 47, 3) := by decide +kernel
theorem dX7_ask_30 : decode cX7_ask 30 = .ok (.invokevirtual 282, 3) := by decide +kernel
theorem dX7_ask_33 : decode cX7_ask 33 = .ok (.aload_n 0, 1) := by decide +kernel
theorem dX7_ask_34 : decode cX7_ask 34 = .ok (.getfield 54, 3) := by decide +kernel
theorem dX7_ask_37 : decode cX7_ask 37 = .ok (.invokevirtual 292, 3) := by decide +kernel
theorem dX7_ask_40 : decode cX7_ask 40 = .ok (.ireturn, 1) := by decide +kernel
theorem dX7_write_0 : decode cX7_write 0 = .ok (.aload_n 0, 1) := by decide +kernel
theorem dX7_write_1 : decode cX7_write 1 = .ok (.getfield 26, 3) := by decide +kernel
theorem dX7_write_4 : decode cX7_write 4 = .ok (.iload_n 1, 1) := by decide +kernel
theorem dX7_write_5 : decode cX7_write 5 = .ok (.invokevirtual 167, 3) := by decide +kernel
theorem dX7_write_8 : decode cX7_write 8 = .ok (.ifCond .eq 19, 3) := by decide +kernel
theorem dX7_write_11 : decode cX7_write 11 = .ok (.iload_n 2, 1) := by decide +kernel
theorem dX7_write_12 : decode cX7_write 12 = .ok (.iconst (-1), 1) := by decide +kernel
theorem dX7_write_13 : decode cX7_write 13 = .ok (.if_icmp .eq 17, 3) := by decide +kernel
theorem dX7_write_16 : decode cX7_write 16 = .ok (.aload_n 0, 1) := by decide +kernel
theorem dX7_write_17 : decode cX7_write 17 = .ok (.getfield 26, 3) := by decide +kernel
theorem dX7_write_20 : decode cX7_write 20 = .ok (.iload_n 2, 1) := by decide +kernel
theorem dX7_write_21 : decode cX7_write 21 = .ok (.invokevirtual 147, 3) := by decide +kernel
theorem dX7_write_24 : decode cX7_write 24 = .ok (.ifCond .ne 6, 3) := by decide +kernel
theorem dX7_write_27 : decode cX7_write 27 = .ok (.ldc 150, 2) := by decide +kernel
theorem dX7_write_29 : decode cX7_write 29 = .ok (.ireturn, 1) := by decide +kernel
theorem dX7_write_30 : decode cX7_write 30 = .ok (.aload_n 0, 1) := by decide +kernel
theorem dX7_write_31 : decode cX7_write 31 = .ok (.getfield 47, 3) := by decide +kernel
theorem dX7_write_34 : decode cX7_write 34 = .ok (.iload_n 1, 1) := by decide +kernel
theorem dX7_write_35 : decode cX7_write 35 = .ok (.iload_n 2, 1) := by decide +kernel
theorem dX7_write_36 : decode cX7_write 36 = .ok (.invokevirtual 295, 3) := by decide +kernel
theorem dX7_write_39 : decode cX7_write 39 = .ok (.ifCond .eq 13, 3) := by decide +kernel
theorem dX7_write_42 : decode cX7_write 42 = .ok (.aload_n 0, 1) := by decide +kernel
theorem dX7_write_43 : decode cX7_write 43 = .ok (.getfield 47, 3) := by decide +kernel
theorem dX7_write_46 : decode cX7_write 46 = .ok (.getfield 142, 3) := by decide +kernel
theorem dX7_write_49 : decode cX7_write 49 = .ok (.goto 5, 3) := by decide +kernel
theorem dX7_write_52 : decode cX7_write 52 = .ok (.ldc 74, 2) := by decide +kernel
theorem dX7_write_54 : decode cX7_write 54 = .ok (.ireturn, 1) := by decide +kernel
theorem dX7_tear_0 : decode cX7_tear 0 = .ok (.aload_n 0, 1) := by decide +kernel
theorem dX7_tear_1 : decode cX7_tear 1 = .ok (.getfield 47, 3) := by decide +kernel
theorem dX7_tear_4 : decode cX7_tear 4 = .ok (.getfield 139, 3) := by decide +kernel
theorem dX7_tear_7 : decode cX7_tear 7 = .ok (.aload_n 0, 1) := by decide +kernel
theorem dX7_tear_8 : decode cX7_tear 8 = .ok (.getfield 47, 3) := by decide +kernel
theorem dX7_tear_11 : decode cX7_tear 11 = .ok (.getfield 142, 3) := by decide +kernel
theorem dX7_tear_14 : decode cX7_tear 14 = .ok (.iadd, 1) := by decide +kernel
theorem dX7_tear_15 : decode cX7_tear 15 = .ok (.istore_n 1, 1) := by decide +kernel
theorem dX7_tear_16 : decode cX7_tear 16 = .ok (.aload_n 0, 1) := by decide +kernel
theorem dX7_tear_17 : decode cX7_tear 17 = .ok (.getfield 47, 3) := by decide +kernel
theorem dX7_tear_20 : decode cX7_tear 20 = .ok (.invokevirtual 95, 3) := by decide +kernel
theorem dX7_tear_23 : decode cX7_tear 23 = .ok (.iload_n 1, 1) := by decide +kernel
theorem dX7_tear_24 : decode cX7_tear 24 = .ok (.ireturn, 1) := by decide +kernel
theorem dX7_judge_0 : decode cX7_judge 0 = .ok (.iconst 0, 1) := by decide +kernel
theorem dX7_judge_1 : decode cX7_judge 1 = .ok (.istore_n 1, 1) := by decide +kernel
theorem dX7_judge_2 : decode cX7_judge 2 = .ok (.iload_n 1, 1) := by decide +kernel
theorem dX7_judge_3 : decode cX7_judge 3 = .ok (.aload_n 0, 1) := by decide +kernel
theorem dX7_judge_4 : decode cX7_judge 4 = .ok (.getfield 47, 3) := by decide +kernel
theorem dX7_judge_7 : decode cX7_judge 7 = .ok (.getfield 142, 3) := by decide +kernel
theorem dX7_judge_10 : decode cX7_judge 10 = .ok (.if_icmp .ge 37, 3) := by decide +kernel
theorem dX7_judge_13 : decode cX7_judge 13 = .ok (.aload_n 0, 1) := by decide +kernel
theorem dX7_judge_14 : decode cX7_judge 14 = .ok (.getfield 33, 3) := by decide +kernel
theorem dX7_judge_17 : decode cX7_judge 17 = .ok (.aload_n 0, 1) := by decide +kernel
theorem dX7_judge_18 : decode cX7_judge 18 = .ok (.getfield 47, 3) := by decide +kernel
theorem dX7_judge_21 : decode cX7_judge 21 = .ok (.iload_n 1, 1) := by decide +kernel
theorem dX7_judge_22 : decode cX7_judge 22 = .ok (.invokevirtual 298, 3) := by decide +kernel
theorem dX7_judge_25 : decode cX7_judge 25 = .ok (.invokevirtual 170, 3) := by decide +kernel
theorem dX7_judge_28 : decode cX7_judge 28 = .ok (.aload_n 0, 1) := by decide +kernel
theorem dX7_judge_29 : decode cX7_judge 29 = .ok (.getfield 47, 3) := by decide +kernel
theorem dX7_judge_32 : decode cX7_judge 32 = .ok (.iload_n 1, 1) := by decide +kernel
theorem dX7_judge_33 : decode cX7_judge 33 = .ok (.invokevirtual 301, 3) := by decide +kernel
theorem dX7_judge_36 : decode cX7_judge 36 = .ok (.if_icmp .eq 5, 3) := by decide +kernel
theorem dX7_judge_39 : decode cX7_judge 39 = .ok (.iload_n 1, 1) := by decide +kernel
theorem dX7_judge_40 : decode cX7_judge 40 = .ok (.ireturn, 1) := by decide +kernel
theorem dX7_judge_41 : decode cX7_judge 41 = .ok (.iinc 1 1, 3) := by decide +kernel
theorem dX7_judge_44 : decode cX7_judge 44 = .ok (.goto (-42), 3) := by decide +kernel
theorem dX7_judge_47 : decode cX7_judge 47 = .ok (.iconst (-1), 1) := by decide +kernel
theorem dX7_judge_48 : decode cX7_judge 48 = .ok (.ireturn, 1) := by decide +kernel
theorem dX7_seed_0 : decode cX7_seed 0 = .ok (.iload_n 1, 1) := by decide +kernel
theorem dX7_seed_1 : decode cX7_seed 1 = .ok (.ifCond .ge 6, 3) := by decide +kernel
theorem dX7_seed_4 : decode cX7_seed 4 = .ok (.ldc 65, 2) := by decide +kernel
theorem dX7_seed_6 : decode cX7_seed 6 = .ok (.ireturn, 1) := by decide +kernel
theorem dX7_seed_7 : decode cX7_seed 7 = .ok (.aload_n 0, 1) := by decide +kernel
theorem dX7_seed_8 : decode cX7_seed 8 = .ok (.getfield 304, 3) := by decide +kernel
theorem dX7_seed_11 : decode cX7_seed 11 = .ok (.istore_n 2, 1) := by decide +kernel
theorem dX7_seed_12 : decode cX7_seed 12 = .ok (.aload_n 0, 1) := by decide +kernel
theorem dX7_seed_13 : decode cX7_seed 13 = .ok (.iload_n 1, 1) := by decide +kernel
theorem dX7_seed_14 : decode cX7_seed 14 = .ok (.putfield 304, 3) := by decide +kernel
theorem dX7_seed_17 : decode cX7_seed 17 = .ok (.iload_n 2, 1) := by decide +kernel
theorem dX7_seed_18 : decode cX7_seed 18 = .ok (.ireturn, 1) := by decide +kernel
theorem dX7_keep_0 : decode cX7_keep 0 = .ok (.iload_n 1, 1) := by decide +kernel
theorem dX7_keep_1 : decode cX7_keep 1 = .ok (.ifCond .lt 8, 3) := by decide +kernel
theorem dX7_keep_4 : decode cX7_keep 4 = .ok (.iload_n 1, 1) := by decide +kernel
theorem dX7_keep_5 : decode cX7_keep 5 = .ok (.iconst 2, 1) := by decide +kernel
theorem dX7_keep_6 : decode cX7_keep 6 = .ok (.if_icmp .lt 6, 3) := by decide +kernel
theorem dX7_keep_9 : decode cX7_keep 9 = .ok (.ldc 150, 2) := by decide +kernel
theorem dX7_keep_11 : decode cX7_keep 11 = .ok (.ireturn, 1) := by decide +kernel
theorem dX7_keep_12 : decode cX7_keep 12 = .ok (.aload_n 0, 1) := by decide +kernel
theorem dX7_keep_13 : decode cX7_keep 13 = .ok (.getfield 60, 3) := by decide +kernel
theorem dX7_keep_16 : decode cX7_keep 16 = .ok (.iload_n 1, 1) := by decide +kernel
theorem dX7_keep_17 : decode cX7_keep 17 = .ok (.aaload, 1) := by decide +kernel
theorem dX7_keep_18 : decode cX7_keep 18 = .ok (.getfield 307, 3) := by decide +kernel
theorem dX7_keep_21 : decode cX7_keep 21 = .ok (.aload_n 0, 1) := by decide +kernel
theorem dX7_keep_22 : decode cX7_keep 22 = .ok (.getfield 33, 3) := by decide +kernel
theorem dX7_keep_25 : decode cX7_keep 25 = .ok (.invokevirtual 310, 3) := by decide +kernel
theorem dX7_keep_28 : decode cX7_keep 28 = .ok (.aload_n 0, 1) := by decide +kernel
theorem dX7_keep_29 : decode cX7_keep 29 = .ok (.getfield 60, 3) := by decide +kernel
theorem dX7_keep_32 : decode cX7_keep 32 = .ok (.iload_n 1, 1) := by decide +kernel
theorem dX7_keep_33 : decode cX7_keep 33 = .ok (.aaload, 1) := by decide +kernel
theorem dX7_keep_34 : decode cX7_keep 34 = .ok (.aload_n 0, 1) := by decide +kernel
theorem dX7_keep_35 : decode cX7_keep 35 = .ok (.getfield 304, 3) := by decide +kernel
theorem dX7_keep_38 : decode cX7_keep 38 = .ok (.putfield 312, 3) := by decide +kernel
theorem dX7_keep_41 : decode cX7_keep 41 = .ok (.aload_n 0, 1) := by decide +kernel
theorem dX7_keep_42 : decode cX7_keep 42 = .ok (.getfield 60, 3) := by decide +kernel
theorem dX7_keep_45 : decode cX7_keep 45 = .ok (.iload_n 1, 1) := by decide +kernel
theorem dX7_keep_46 : decode cX7_keep 46 = .ok (.aaload, 1) := by decide +kernel
theorem dX7_keep_47 : decode cX7_keep 47 = .ok (.iconst 1, 1) := by decide +kernel
theorem dX7_keep_48 : decode cX7_keep 48 = .ok (.putfield 101, 3) := by decide +kernel
theorem dX7_keep_51 : decode cX7_keep 51 = .ok (.aload_n 0, 1) := by decide +kernel
theorem dX7_keep_52 : decode cX7_keep 52 = .ok (.getfield 40, 3) := by decide +kernel
theorem dX7_keep_55 : decode cX7_keep 55 = .ok (.invokevirtual 98, 3) := by decide +kernel
theorem dX7_keep_58 : decode cX7_keep 58 = .ok (.iconst 1, 1) := by decide +kernel
theorem dX7_keep_59 : decode cX7_keep 59 = .ok (.ireturn, 1) := by decide +kernel
theorem dX7_goBack_0 : decode cX7_goBack 0 = .ok (.iload_n 1, 1) := by decide +kernel
theorem dX7_goBack_1 : decode cX7_goBack 1 = .ok (.ifCond .lt 8, 3) := by decide +kernel
theorem dX7_goBack_4 : decode cX7_goBack 4 = .ok (.iload_n 1, 1) := by decide +kernel
theorem dX7_goBack_5 : decode cX7_goBack 5 = .ok (.iconst 2, 1) := by decide +kernel
theorem dX7_goBack_6 : decode cX7_goBack 6 = .ok (.if_icmp .lt 6, 3) := by decide +kernel
theorem dX7_goBack_9 : decode cX7_goBack 9 = .ok (.ldc 150, 2) := by decide +kernel
theorem dX7_goBack_11 : decode cX7_goBack 11 = .ok (.ireturn, 1) := by decide +kernel
theorem dX7_goBack_12 : decode cX7_goBack 12 = .ok (.aload_n 0, 1) := by decide +kernel
theorem dX7_goBack_13 : decode cX7_goBack 13 = .ok (.getfield 60, 3) := by decide +kernel
theorem dX7_goBack_16 : decode cX7_goBack 16 = .ok (.iload_n 1, 1) := by decide +kernel
theorem dX7_goBack_17 : decode cX7_goBack 17 = .ok (.aaload, 1) := by decide +kernel
theorem dX7_goBack_18 : decode cX7_goBack 18 = .ok (.getfield 101, 3) := by decide +kernel
theorem dX7_goBack_21 : decode cX7_goBack 21 = .ok (.ifCond .ne 6, 3) := by decide +kernel
theorem dX7_goBack_24 : decode cX7_goBack 24 = .ok (.ldc 198, 2) := by decide +kernel
theorem dX7_goBack_26 : decode cX7_goBack 26 = .ok (.ireturn, 1) := by decide +kernel
theorem dX7_goBack_27 : decode cX7_goBack 27 = .ok (.aload_n 0, 1) := by decide +kernel
theorem dX7_goBack_28 : decode cX7_goBack 28 = .ok (.getfield 33, 3) := by decide +kernel
theorem dX7_goBack_31 : decode cX7_goBack 31 = .ok (.aload_n 0, 1) := by decide +kernel
theorem dX7_goBack_32 : decode cX7_goBack 32 = .ok (.getfield 60, 3) := by decide +kernel
theorem dX7_goBack_35 : decode cX7_goBack 35 = .ok (.iload_n 1, 1) := by decide +kernel
theorem dX7_goBack_36 : decode cX7_goBack 36 = .ok (.aaload, 1) := by decide +kernel
theorem dX7_goBack_37 : decode cX7_goBack 37 = .ok (.getfield 307, 3) := by decide +kernel
theorem dX7_goBack_40 : decode cX7_goBack 40 = .ok (.invokevirtual 310, 3) := by decide +kernel
theorem dX7_goBack_43 : decode cX7_goBack 43 = .ok (.aload_n 0, 1) := by decide +kernel
theorem dX7_goBack_44 : decode cX7_goBack 44 = .ok (.aload_n 0, 1) := by decide +kernel
theorem dX7_goBack_45 : decode cX7_goBack 45 = .ok (.getfield 60, 3) := by decide +kernel
theorem dX7_goBack_48 : decode cX7_goBack 48 = .ok (.iload_n 1, 1) := by decide +kernel
theorem dX7_goBack_49 : decode cX7_goBack 49 = .ok (.aaload, 1) := by decide +kernel
theorem dX7_goBack_50 : decode cX7_goBack 50 = .ok (.getfield 312, 3) := by decide +kernel
theorem dX7_goBack_53 : decode cX7_goBack 53 = .ok (.putfield 304, 3) := by decide +kernel
theorem dX7_goBack_56 : decode cX7_goBack 56 = .ok (.aload_n 0, 1) := by decide +kernel
theorem dX7_goBack_57 : decode cX7_goBack 57 = .ok (.getfield 40, 3) := by decide +kernel
theorem dX7_goBack_60 : decode cX7_goBack 60 = .ok (.invokevirtual 98, 3) := by decide +kernel
theorem dX7_goBack_63 : decode cX7_goBack 63 = .ok (.iconst 1, 1) := by decide +kernel
theorem dX7_goBack_64 : decode cX7_goBack 64 = .ok (.ireturn, 1) := by decide +kernel
theorem dX7_winner_0 : decode cX7_winner 0 = .ok (.iload_n 2, 1) := by decide +kernel
theorem dX7_winner_1 : decode cX7_winner 1 = .ok (.iconst 2, 1) := by decide +kernel
theorem dX7_winner_2 : decode cX7_winner 2 = .ok (.if_icmp .ne 5, 3) := by decide +kernel
theorem dX7_winner_5 : decode cX7_winner 5 = .ok (.iconst (-1), 1) := by decide +kernel
theorem dX7_winner_6 : decode cX7_winner 6 = .ok (.ireturn, 1) := by decide +kernel
theorem dX7_winner_7 : decode cX7_winner 7 = .ok (.iload_n 2, 1) := by decide +kernel
theorem dX7_winner_8 : decode cX7_winner 8 = .ok (.ifCond .ne 7, 3) := by decide +kernel
theorem dX7_winner_11 : decode cX7_winner 11 = .ok (.iload_n 0, 1) := by decide +kernel
theorem dX7_winner_12 : decode cX7_winner 12 = .ok (.goto 4, 3) := by decide +kernel
theorem dX7_winner_15 : decode cX7_winner 15 = .ok (.iload_n 1, 1) := by decide +kernel
theorem dX7_winner_16 : decode cX7_winner 16 = .ok (.ireturn, 1) := by decide +kernel
theorem dX7_winsOver_0 : decode cX7_winsOver 0 = .ok (.aload_n 0, 1) := by decide +kernel
theorem dX7_winsOver_1 : decode cX7_winsOver 1 = .ok (.getfield 26, 3) := by decide +kernel
theorem dX7_winsOver_4 : decode cX7_winsOver 4 = .ok (.aload_n 0, 1) := by decide +kernel
theorem dX7_winsOver_5 : decode cX7_winsOver 5 = .ok (.getfield 33, 3) := by decide +kernel
theorem dX7_winsOver_8 : decode cX7_winsOver 8 = .ok (.iload_n 1, 1) := by decide +kernel
theorem dX7_winsOver_9 : decode cX7_winsOver 9 = .ok (.invokevirtual 170, 3) := by decide +kernel
theorem dX7_winsOver_12 : decode cX7_winsOver 12 = .ok (.aload_n 0, 1) := by decide +kernel
theorem dX7_winsOver_13 : decode cX7_winsOver 13 = .ok (.getfield 33, 3) := by decide +kernel
theorem dX7_winsOver_16 : decode cX7_winsOver 16 = .ok (.iload_n 2, 1) := by decide +kernel
theorem dX7_winsOver_17 : decode cX7_winsOver 17 = .ok (.invokevirtual 170, 3) := by decide +kernel
theorem dX7_winsOver_20 : decode cX7_winsOver 20 = .ok (.invokevirtual 239, 3) := by decide +kernel
theorem dX7_winsOver_23 : decode cX7_winsOver 23 = .ok (.ifCond .ne 7, 3) := by decide +kernel
theorem dX7_winsOver_26 : decode cX7_winsOver 26 = .ok (.iconst 1, 1) := by decide +kernel
theorem dX7_winsOver_27 : decode cX7_winsOver 27 = .ok (.goto 4, 3) := by decide +kernel
theorem dX7_winsOver_30 : decode cX7_winsOver 30 = .ok (.iconst 0, 1) := by decide +kernel
theorem dX7_winsOver_31 : decode cX7_winsOver 31 = .ok (.ireturn, 1) := by decide +kernel
theorem dX7_beatenBy_0 : decode cX7_beatenBy 0 = .ok (.iconst 0, 1) := by decide +kernel
theorem dX7_beatenBy_1 : decode cX7_beatenBy 1 = .ok (.istore_n 2, 1) := by decide +kernel
theorem dX7_beatenBy_2 : decode cX7_beatenBy 2 = .ok (.iconst 0, 1) := by decide +kernel
theorem dX7_beatenBy_3 : decode cX7_beatenBy 3 = .ok (.istore_n 3, 1) := by decide +kernel
theorem dX7_beatenBy_4 : decode cX7_beatenBy 4 = .ok (.iload_n 3, 1) := by decide +kernel
theorem dX7_beatenBy_5 : decode cX7_beatenBy 5 = .ok (.aload_n 0, 1) := by decide +kernel
theorem dX7_beatenBy_6 : decode cX7_beatenBy 6 = .ok (.getfield 26, 3) := by decide +kernel
theorem dX7_beatenBy_9 : decode cX7_beatenBy 9 = .ok (.getfield 105, 3) := by decide +kernel
theorem dX7_beatenBy_12 : decode cX7_beatenBy 12 = .ok (.if_icmp .ge 24, 3) := by decide +kernel
theorem dX7_beatenBy_15 : decode cX7_beatenBy 15 = .ok (.aload_n 0, 1) := by decide +kernel
theorem dX7_beatenBy_16 : decode cX7_beatenBy 16 = .ok (.iload_n 1, 1) := by decide +kernel
theorem dX7_beatenBy_17 : decode cX7_beatenBy 17 = .ok (.iload_n 3, 1) := by decide +kernel
theorem dX7_beatenBy_18 : decode cX7_beatenBy 18 = .ok (.invokevirtual 273, 3) := by decide +kernel
theorem dX7_beatenBy_21 : decode cX7_beatenBy 21 = .ok (.ifCond .eq 9, 3) := by decide +kernel
theorem dX7_beatenBy_24 : decode cX7_beatenBy 24 = .ok (.iload_n 2, 1) := by decide +kernel
theorem dX7_beatenBy_25 : decode cX7_beatenBy 25 = .ok (.iconst 1, 1) := by decide +kernel
theorem dX7_beatenBy_26 : decode cX7_beatenBy 26 = .ok (.iload_n 3, 1) := by decide +kernel
theorem dX7_beatenBy_27 : decode cX7_beatenBy 27 = .ok (.ishl, 1) := by decide +kernel
theorem dX7_beatenBy_28 : decode cX7_beatenBy 28 = .ok (.ior, 1) := by decide +kernel
theorem dX7_beatenBy_29 : decode cX7_beatenBy 29 = .ok (.istore_n 2, 1) := by decide +kernel
theorem dX7_beatenBy_30 : decode cX7_beatenBy 30 = .ok (.iinc 3 1, 3) := by decide +kernel
theorem dX7_beatenBy_33 : decode cX7_beatenBy 33 = .ok (.goto (-29), 3) := by decide +kernel
theorem dX7_beatenBy_36 : decode cX7_beatenBy 36 = .ok (.iload_n 2, 1) := by decide +kernel
theorem dX7_beatenBy_37 : decode cX7_beatenBy 37 = .ok (.ireturn, 1) := by decide +kernel
theorem dX7_ruler_0 : decode cX7_ruler 0 = .ok (.iconst (-1), 1) := by decide +kernel
theorem dX7_ruler_1 : decode cX7_ruler 1 = .ok (.istore_n 1, 1) := by decide +kernel
theorem dX7_ruler_2 : decode cX7_ruler 2 = .ok (.iconst 0, 1) := by decide +kernel
theorem dX7_ruler_3 : decode cX7_ruler 3 = .ok (.istore_n 2, 1) := by decide +kernel
theorem dX7_ruler_4 : decode cX7_ruler 4 = .ok (.iconst 0, 1) := by decide +kernel
theorem dX7_ruler_5 : decode cX7_ruler 5 = .ok (.istore_n 3, 1) := by decide +kernel
theorem dX7_ruler_6 : decode cX7_ruler 6 = .ok (.iload_n 3, 1) := by decide +kernel
theorem dX7_ruler_7 : decode cX7_ruler 7 = .ok (.aload_n 0, 1) := by decide +kernel
theorem dX7_ruler_8 : decode cX7_ruler 8 = .ok (.getfield 26, 3) := by decide +kernel
theorem dX7_ruler_11 : decode cX7_ruler 11 = .ok (.getfield 105, 3) := by decide +kernel
theorem dX7_ruler_14 : decode cX7_ruler 14 = .ok (.if_icmp .ge 30, 3) := by decide +kernel
theorem dX7_ruler_17 : decode cX7_ruler 17 = .ok (.aload_n 0, 1) := by decide +kernel
theorem dX7_ruler_18 : decode cX7_ruler 18 = .ok (.iload_n 3, 1) := by decide +kernel
theorem dX7_ruler_19 : decode cX7_ruler 19 = .ok (.invokevirtual 176, 3) := by decide +kernel
theorem dX7_ruler_22 : decode cX7_ruler 22 = .ok (.invokestatic 264, 3) := by decide +kernel
theorem dX7_ruler_25 : decode cX7_ruler 25 = .ok (.istore 4, 2) := by decide +kernel
theorem dX7_ruler_27 : decode cX7_ruler 27 = .ok (.iload 4, 2) := by decide +kernel
theorem dX7_ruler_29 : decode cX7_ruler 29 = .ok (.iload_n 2, 1) := by decide +kernel
theorem dX7_ruler_30 : decode cX7_ruler 30 = .ok (.if_icmp .le 8, 3) := by decide +kernel
theorem dX7_ruler_33 : decode cX7_ruler 33 = .ok (.iload 4, 2) := by decide +kernel
theorem dX7_ruler_35 : decode cX7_ruler 35 = .ok (.istore_n 2, 1) := by decide +kernel
theorem dX7_ruler_36 : decode cX7_ruler 36 = .ok (.iload_n 3, 1) := by decide +kernel
theorem dX7_ruler_37 : decode cX7_ruler 37 = .ok (.istore_n 1, 1) := by decide +kernel
theorem dX7_ruler_38 : decode cX7_ruler 38 = .ok (.iinc 3 1, 3) := by decide +kernel
theorem dX7_ruler_41 : decode cX7_ruler 41 = .ok (.goto (-35), 3) := by decide +kernel
theorem dX7_ruler_44 : decode cX7_ruler 44 = .ok (.iload_n 1, 1) := by decide +kernel
theorem dX7_ruler_45 : decode cX7_ruler 45 = .ok (.ireturn, 1) := by decide +kernel
theorem dX7_isRing_0 : decode cX7_isRing 0 = .ok (.aload_n 0, 1) := by decide +kernel
theorem dX7_isRing_1 : decode cX7_isRing 1 = .ok (.iload_n 1, 1) := by decide +kernel
theorem dX7_isRing_2 : decode cX7_isRing 2 = .ok (.iload_n 2, 1) := by decide +kernel
theorem dX7_isRing_3 : decode cX7_isRing 3 = .ok (.invokevirtual 273, 3) := by decide +kernel
theorem dX7_isRing_6 : decode cX7_isRing 6 = .ok (.ifCond .eq 25, 3) := by decide +kernel
theorem dX7_isRing_9 : decode cX7_isRing 9 = .ok (.aload_n 0, 1) := by decide +kernel
theorem dX7_isRing_10 : decode cX7_isRing 10 = .ok (.iload_n 2, 1) := by decide +kernel
theorem dX7_isRing_11 : decode cX7_isRing 11 = .ok (.iload_n 3, 1) := by decide +kernel
theorem dX7_isRing_12 : decode cX7_isRing 12 = .ok (.invokevirtual 273, 3) := by decide +kernel
theorem dX7_isRing_15 : decode cX7_isRing 15 = .ok (.ifCond .eq 16, 3) := by decide +kernel
theorem dX7_isRing_18 : decode cX7_isRing 18 = .ok (.aload_n 0, 1) := by decide +kernel
theorem dX7_isRing_19 : decode cX7_isRing 19 = .ok (.iload_n 3, 1) := by decide +kernel
theorem dX7_isRing_20 : decode cX7_isRing 20 = .ok (.iload_n 1, 1) := by decide +kernel
theorem dX7_isRing_21 : decode cX7_isRing 21 = .ok (.invokevirtual 273, 3) := by decide +kernel
theorem dX7_isRing_24 : decode cX7_isRing 24 = .ok (.ifCond .eq 7, 3) := by decide +kernel
theorem dX7_isRing_27 : decode cX7_isRing 27 = .ok (.iconst 1, 1) := by decide +kernel
theorem dX7_isRing_28 : decode cX7_isRing 28 = .ok (.goto 4, 3) := by decide +kernel
theorem dX7_isRing_31 : decode cX7_isRing 31 = .ok (.iconst 0, 1) := by decide +kernel
theorem dX7_isRing_32 : decode cX7_isRing 32 = .ok (.ireturn, 1) := by decide +kernel
theorem dX7_letMeet_0 : decode cX7_letMeet 0 = .ok (.aload_n 0, 1) := by decide +kernel
theorem dX7_letMeet_1 : decode cX7_letMeet 1 = .ok (.getfield 26, 3) := by decide +kernel
theorem dX7_letMeet_4 : decode cX7_letMeet 4 = .ok (.aload_n 0, 1) := by decide +kernel
theorem dX7_letMeet_5 : decode cX7_letMeet 5 = .ok (.getfield 33, 3) := by decide +kernel
theorem dX7_letMeet_8 : decode cX7_letMeet 8 = .ok (.iload_n 1, 1) := by decide +kernel
theorem dX7_letMeet_9 : decode cX7_letMeet 9 = .ok (.invokevirtual 170, 3) := by decide +kernel
theorem dX7_letMeet_12 : decode cX7_letMeet 12 = .ok (.aload_n 0, 1) := by decide +kernel
theorem dX7_letMeet_13 : decode cX7_letMeet 13 = .ok (.getfield 33, 3) := by decide +kernel
theorem dX7_letMeet_16 : decode cX7_letMeet 16 = .ok (.iload_n 2, 1) := by decide +kernel
theorem dX7_letMeet_17 : decode cX7_letMeet 17 = .ok (.invokevirtual 170, 3) := by decide +kernel
theorem dX7_letMeet_20 : decode cX7_letMeet 20 = .ok (.invokevirtual 239, 3) := by decide +kernel
theorem dX7_letMeet_23 : decode cX7_letMeet 23 = .ok (.istore_n 3, 1) := by decide +kernel
theorem dX7_letMeet_24 : decode cX7_letMeet 24 = .ok (.aload_n 0, 1) := by decide +kernel
theorem dX7_letMeet_25 : decode cX7_letMeet 25 = .ok (.getfield 33, 3) := by decide +kernel
theorem dX7_letMeet_28 : decode cX7_letMeet 28 = .ok (.iload_n 1, 1) := by decide +kernel
theorem dX7_letMeet_29 : decode cX7_letMeet 29 = .ok (.iload_n 2, 1) := by decide +kernel
theorem dX7_letMeet_30 : decode cX7_letMeet 30 = .ok (.iload_n 3, 1) := by decide +kernel
theorem dX7_letMeet_31 : decode cX7_letMeet 31 = .ok (.invokevirtual 313, 3) := by decide +kernel
theorem dX7_letMeet_34 : decode cX7_letMeet 34 = .ok (.iload_n 3, 1) := by decide +kernel
theorem dX7_letMeet_35 : decode cX7_letMeet 35 = .ok (.ireturn, 1) := by decide +kernel
theorem dX7_nextDraw_0 : decode cX7_nextDraw 0 = .ok (.aload_n 0, 1) := by decide +kernel
theorem dX7_nextDraw_1 : decode cX7_nextDraw 1 = .ok (.aload_n 0, 1) := by decide +kernel
theorem dX7_nextDraw_2 : decode cX7_nextDraw 2 = .ok (.getfield 304, 3) := by decide +kernel
theorem dX7_nextDraw_5 : decode cX7_nextDraw 5 = .ok (.ldc_w 317, 3) := by decide +kernel
theorem dX7_nextDraw_8 : decode cX7_nextDraw 8 = .ok (.imul, 1) := by decide +kernel
theorem dX7_nextDraw_9 : decode cX7_nextDraw 9 = .ok (.sipush 12345, 3) := by decide +kernel
theorem dX7_nextDraw_12 : decode cX7_nextDraw 12 = .ok (.iadd, 1) := by decide +kernel
theorem dX7_nextDraw_13 : decode cX7_nextDraw 13 = .ok (.ldc_w 318, 3) := by decide +kernel
theorem dX7_nextDraw_16 : decode cX7_nextDraw 16 = .ok (.iand, 1) := by decide +kernel
theorem dX7_nextDraw_17 : decode cX7_nextDraw 17 = .ok (.putfield 304, 3) := by decide +kernel
theorem dX7_nextDraw_20 : decode cX7_nextDraw 20 = .ok (.iload_n 1, 1) := by decide +kernel
theorem dX7_nextDraw_21 : decode cX7_nextDraw 21 = .ok (.ifCond .gt 7, 3) := by decide +kernel
theorem dX7_nextDraw_24 : decode cX7_nextDraw 24 = .ok (.iconst 0, 1) := by decide +kernel
theorem dX7_nextDraw_25 : decode cX7_nextDraw 25 = .ok (.goto 13, 3) := by decide +kernel
theorem dX7_nextDraw_28 : decode cX7_nextDraw 28 = .ok (.aload_n 0, 1) := by decide +kernel
theorem dX7_nextDraw_29 : decode cX7_nextDraw 29 = .ok (.getfield 304, 3) := by decide +kernel
theorem dX7_nextDraw_32 : decode cX7_nextDraw 32 = .ok (.ldc_w 319, 3) := by decide +kernel
theorem dX7_nextDraw_35 : decode cX7_nextDraw 35 = .ok (.idiv, 1) := by decide +kernel
theorem dX7_nextDraw_36 : decode cX7_nextDraw 36 = .ok (.iload_n 1, 1) := by decide +kernel
theorem dX7_nextDraw_37 : decode cX7_nextDraw 37 = .ok (.irem, 1) := by decide +kernel
theorem dX7_nextDraw_38 : decode cX7_nextDraw 38 = .ok (.ireturn, 1) := by decide +kernel
theorem dX7_driftOnce_0 : decode cX7_driftOnce 0 = .ok (.aload_n 0, 1) := by decide +kernel
theorem dX7_driftOnce_1 : decode cX7_driftOnce 1 = .ok (.aload_n 0, 1) := by decide +kernel
theorem dX7_driftOnce_2 : decode cX7_driftOnce 2 = .ok (.getfield 26, 3) := by decide +kernel
theorem dX7_driftOnce_5 : decode cX7_driftOnce 5 = .ok (.getfield 105, 3) := by decide +kernel
theorem dX7_driftOnce_8 : decode cX7_driftOnce 8 = .ok (.invokevirtual 320, 3) := by decide +kernel
theorem dX7_driftOnce_11 : decode cX7_driftOnce 11 = .ok (.istore_n 1, 1) := by decide +kernel
theorem dX7_driftOnce_12 : decode cX7_driftOnce 12 = .ok (.aload_n 0, 1) := by decide +kernel
theorem dX7_driftOnce_13 : decode cX7_driftOnce 13 = .ok (.iconst 5, 1) := by decide +kernel
theorem dX7_driftOnce_14 : decode cX7_driftOnce 14 = .ok (.invokevirtual 320, 3) := by decide +kernel
theorem dX7_driftOnce_17 : decode cX7_driftOnce 17 = .ok (.istore_n 2, 1) := by decide +kernel
theorem dX7_driftOnce_18 : decode cX7_driftOnce 18 = .ok (.iload_n 2, 1) := by decide +kernel
theorem dX7_driftOnce_19 : decode cX7_driftOnce 19 = .ok (.iconst 1, 1) := by decide +kernel
theorem dX7_driftOnce_20 : decode cX7_driftOnce 20 = .ok (.if_icmp .gt 15, 3) := by decide +kernel
theorem dX7_driftOnce_23 : decode cX7_driftOnce 23 = .ok (.aload_n 0, 1) := by decide +kernel
theorem dX7_driftOnce_24 : decode cX7_driftOnce 24 = .ok (.getfield 33, 3) := by decide +kernel
theorem dX7_driftOnce_27 : decode cX7_driftOnce 27 = .ok (.iload_n 1, 1) := by decide +kernel
theorem dX7_driftOnce_28 : decode cX7_driftOnce 28 = .ok (.invokevirtual 203, 3) := by decide +kernel
theorem dX7_driftOnce_31 : decode cX7_driftOnce 31 = .ok (.pop, 1) := by decide +kernel
theorem dX7_driftOnce_32 : decode cX7_driftOnce 32 = .ok (.goto 68, 3) := by decide +kernel
theorem dX7_driftOnce_35 : decode cX7_driftOnce 35 = .ok (.iload_n 2, 1) := by decide +kernel
theorem dX7_driftOnce_36 : decode cX7_driftOnce 36 = .ok (.iconst 2, 1) := by decide +kernel
theorem dX7_driftOnce_37 : decode cX7_driftOnce 37 = .ok (.if_icmp .ne 15, 3) := by decide +kernel
theorem dX7_driftOnce_40 : decode cX7_driftOnce 40 = .ok (.aload_n 0, 1) := by decide +kernel
theorem dX7_driftOnce_41 : decode cX7_driftOnce 41 = .ok (.getfield 33, 3) := by decide +kernel
theorem dX7_driftOnce_44 : decode cX7_driftOnce 44 = .ok (.iload_n 1, 1) := by decide +kernel
theorem dX7_driftOnce_45 : decode cX7_driftOnce 45 = .ok (.invokevirtual 206, 3) := by decide +kernel
theorem dX7_driftOnce_48 : decode cX7_driftOnce 48 = .ok (.pop, 1) := by decide +kernel
theorem dX7_driftOnce_49 : decode cX7_driftOnce 49 = .ok (.goto 51, 3) := by decide +kernel
theorem dX7_driftOnce_52 : decode cX7_driftOnce 52 = .ok (.iload_n 2, 1) := by decide +kernel
theorem dX7_driftOnce_53 : decode cX7_driftOnce 53 = .ok (.iconst 3, 1) := by decide +kernel
theorem dX7_driftOnce_54 : decode cX7_driftOnce 54 = .ok (.if_icmp .ne 30, 3) := by decide +kernel
theorem dX7_driftOnce_57 : decode cX7_driftOnce 57 = .ok (.aload_n 0, 1) := by decide +kernel
theorem dX7_driftOnce_58 : decode cX7_driftOnce 58 = .ok (.aload_n 0, 1) := by decide +kernel
theorem dX7_driftOnce_59 : decode cX7_driftOnce 59 = .ok (.getfield 26, 3) := by decide +kernel
theorem dX7_driftOnce_62 : decode cX7_driftOnce 62 = .ok (.getfield 105, 3) := by decide +kernel
theorem dX7_driftOnce_65 : decode cX7_driftOnce 65 = .ok (.invokevirtual 320, 3) := by decide +kernel
theorem dX7_driftOnce_68 : decode cX7_driftOnce 68 = .ok (.istore_n 3, 1) := by decide +kernel
theorem dX7_driftOnce_69 : decode cX7_driftOnce 69 = .ok (.iload_n 1, 1) := by decide +kernel
theorem dX7_driftOnce_70 : decode cX7_driftOnce 70 = .ok (.iload_n 3, 1) := by decide +kernel
theorem dX7_driftOnce_71 : decode cX7_driftOnce 71 = .ok (.if_icmp .eq 10, 3) := by decide +kernel
theorem dX7_driftOnce_74 : decode cX7_driftOnce 74 = .ok (.aload_n 0, 1) := by decide +kernel
theorem dX7_driftOnce_75 : decode cX7_driftOnce 75 = .ok (.iload_n 1, 1) := by decide +kernel
theorem dX7_driftOnce_76 : decode cX7_driftOnce 76 = .ok (.iload_n 3, 1) := by decide +kernel
theorem dX7_driftOnce_77 : decode cX7_driftOnce 77 = .ok (.invokevirtual 213, 3) := by decide +kernel
theorem dX7_driftOnce_80 : decode cX7_driftOnce 80 = .ok (.pop, 1) := by decide +kernel
theorem dX7_driftOnce_81 : decode cX7_driftOnce 81 = .ok (.goto 19, 3) := by decide +kernel
theorem dX7_driftOnce_84 : decode cX7_driftOnce 84 = .ok (.aload_n 0, 1) := by decide +kernel
theorem dX7_driftOnce_85 : decode cX7_driftOnce 85 = .ok (.getfield 33, 3) := by decide +kernel
theorem dX7_driftOnce_88 : decode cX7_driftOnce 88 = .ok (.aload_n 0, 1) := by decide +kernel
theorem dX7_driftOnce_89 : decode cX7_driftOnce 89 = .ok (.iconst 3, 1) := by decide +kernel
theorem dX7_driftOnce_90 : decode cX7_driftOnce 90 = .ok (.invokevirtual 320, 3) := by decide +kernel
theorem dX7_driftOnce_93 : decode cX7_driftOnce 93 = .ok (.aload_n 0, 1) := by decide +kernel
theorem dX7_driftOnce_94 : decode cX7_driftOnce 94 = .ok (.getfield 13, 3) := by decide +kernel
theorem dX7_driftOnce_97 : decode cX7_driftOnce 97 = .ok (.invokevirtual 223, 3) := by decide +kernel
theorem dX7_driftOnce_100 : decode cX7_driftOnce 100 = .ok (.return_, 1) := by decide +kernel
theorem dX7_orderFrom_0 : decode cX7_orderFrom 0 = .ok (.iload_n 1, 1) := by decide +kernel
theorem dX7_orderFrom_1 : decode cX7_orderFrom 1 = .ok (.iload_n 2, 1) := by decide +kernel
theorem dX7_orderFrom_2 : decode cX7_orderFrom 2 = .ok (.if_icmp .ge 9, 3) := by decide +kernel
theorem dX7_orderFrom_5 : decode cX7_orderFrom 5 = .ok (.iload_n 1, 1) := by decide +kernel
theorem dX7_orderFrom_6 : decode cX7_orderFrom 6 = .ok (.bipush 6, 2) := by decide +kernel
theorem dX7_orderFrom_8 : decode cX7_orderFrom 8 = .ok (.if_icmp .lt 18, 3) := by decide +kernel
theorem dX7_orderFrom_11 : decode cX7_orderFrom 11 = .ok (.aload_n 0, 1) := by decide +kernel
theorem dX7_orderFrom_12 : decode cX7_orderFrom 12 = .ok (.iload_n 3, 1) := by decide +kernel
theorem dX7_orderFrom_13 : decode cX7_orderFrom 13 = .ok (.invokevirtual 323, 3) := by decide +kernel
theorem dX7_orderFrom_16 : decode cX7_orderFrom 16 = .ok (.ifCond .eq 8, 3) := by decide +kernel
theorem dX7_orderFrom_19 : decode cX7_orderFrom 19 = .ok (.iload 4, 2) := by decide +kernel
theorem dX7_orderFrom_21 : decode cX7_orderFrom 21 = .ok (.goto 4, 3) := by decide +kernel
theorem dX7_orderFrom_24 : decode cX7_orderFrom 24 = .ok (.iconst (-1), 1) := by decide +kernel
theorem dX7_orderFrom_25 : decode cX7_orderFrom 25 = .ok (.ireturn, 1) := by decide +kernel
theorem dX7_orderFrom_26 : decode cX7_orderFrom 26 = .ok (.iconst 0, 1) := by decide +kernel
theorem dX7_orderFrom_27 : decode cX7_orderFrom 27 = .ok (.istore 5, 2) := by decide +kernel
theorem dX7_orderFrom_29 : decode cX7_orderFrom 29 = .ok (.iload 5, 2) := by decide +kernel
theorem dX7_orderFrom_31 : decode cX7_orderFrom 31 = .ok (.aload_n 0, 1) := by decide +kernel
theorem dX7_orderFrom_32 : decode cX7_orderFrom 32 = .ok (.getfield 26, 3) := by decide +kernel
theorem dX7_orderFrom_35 : decode cX7_orderFrom 35 = .ok (.getfield 105, 3) := by decide +kernel
theorem dX7_orderFrom_38 : decode cX7_orderFrom 38 = .ok (.if_icmp .ge 94, 3) := by decide +kernel
theorem dX7_orderFrom_41 : decode cX7_orderFrom 41 = .ok (.iload 5, 2) := by decide +kernel
theorem dX7_orderFrom_43 : decode cX7_orderFrom 43 = .ok (.bipush 6, 2) := by decide +kernel
theorem dX7_orderFrom_45 : decode cX7_orderFrom 45 = .ok (.if_icmp .ge 87, 3) := by decide +kernel
theorem dX7_orderFrom_48 : decode cX7_orderFrom 48 = .ok (.aload_n 0, 1) := by decide +kernel
theorem dX7_orderFrom_49 : decode cX7_orderFrom 49 = .ok (.getfield 9, 3) := by decide +kernel
theorem dX7_orderFrom_52 : decode cX7_orderFrom 52 = .ok (.iload 5, 2) := by decide +kernel
theorem dX7_orderFrom_54 : decode cX7_orderFrom 54 = .ok (.iaload, 1) := by decide +kernel
theorem dX7_orderFrom_55 : decode cX7_orderFrom 55 = .ok (.iconst (-1), 1) := by decide +kernel
theorem dX7_orderFrom_56 : decode cX7_orderFrom 56 = .ok (.if_icmp .ne 70, 3) := by decide +kernel
theorem dX7_orderFrom_59 : decode cX7_orderFrom 59 = .ok (.aload_n 0, 1) := by decide +kernel
theorem dX7_orderFrom_60 : decode cX7_orderFrom 60 = .ok (.getfield 9, 3) := by decide +kernel
theorem dX7_orderFrom_63 : decode cX7_orderFrom 63 = .ok (.iload 5, 2) := by decide +kernel
theorem dX7_orderFrom_65 : decode cX7_orderFrom 65 = .ok (.aload_n 0, 1) := by decide +kernel
theorem dX7_orderFrom_66 : decode cX7_orderFrom 66 = .ok (.getfield 33, 3) := by decide +kernel
theorem dX7_orderFrom_69 : decode cX7_orderFrom 69 = .ok (.iload_n 1, 1) := by decide +kernel
theorem dX7_orderFrom_70 : decode cX7_orderFrom 70 = .ok (.invokevirtual 164, 3) := by decide +kernel
theorem dX7_orderFrom_73 : decode cX7_orderFrom 73 = .ok (.iastore, 1) := by decide +kernel
theorem dX7_orderFrom_74 : decode cX7_orderFrom 74 = .ok (.aload_n 0, 1) := by decide +kernel
theorem dX7_orderFrom_75 : decode cX7_orderFrom 75 = .ok (.iload 5, 2) := by decide +kernel
theorem dX7_orderFrom_77 : decode cX7_orderFrom 77 = .ok (.iload_n 3, 1) := by decide +kernel
theorem dX7_orderFrom_78 : decode cX7_orderFrom 78 = .ok (.invokevirtual 326, 3) := by decide +kernel
theorem dX7_orderFrom_81 : decode cX7_orderFrom 81 = .ok (.ifCond .eq 25, 3) := by decide +kernel
theorem dX7_orderFrom_84 : decode cX7_orderFrom 84 = .ok (.aload_n 0, 1) := by decide +kernel
theorem dX7_orderFrom_85 : decode cX7_orderFrom 85 = .ok (.iload_n 1, 1) := by decide +kernel
theorem dX7_orderFrom_86 : decode cX7_orderFrom 86 = .ok (.iconst 1, 1) := by decide +kernel
theorem dX7_orderFrom_87 : decode cX7_orderFrom 87 = .ok (.iadd, 1) := by decide +kernel
theorem dX7_orderFrom_88 : decode cX7_orderFrom 88 = .ok (.iload_n 2, 1) := by decide +kernel
theorem dX7_orderFrom_89 : decode cX7_orderFrom 89 = .ok (.iload_n 3, 1) := by decide +kernel
theorem dX7_orderFrom_90 : decode cX7_orderFrom 90 = .ok (.bipush 10, 2) := by decide +kernel
theorem dX7_orderFrom_92 : decode cX7_orderFrom 92 = .ok (.iload 4, 2) := by decide +kernel
theorem dX7_orderFrom_94 : decode cX7_orderFrom 94 = .ok (.imul, 1) := by decide +kernel
theorem dX7_orderFrom_95 : decode cX7_orderFrom 95 = .ok (.iload 5, 2) := by decide +kernel
theorem dX7_orderFrom_97 : decode cX7_orderFrom 97 = .ok (.iadd, 1) := by decide +kernel
theorem dX7_orderFrom_98 : decode cX7_orderFrom 98 = .ok (.iconst 1, 1) := by decide +kernel
theorem dX7_orderFrom_99 : decode cX7_orderFrom 99 = .ok (.iadd, 1) := by decide +kernel
theorem dX7_orderFrom_100 : decode cX7_orderFrom 100 = .ok (.invokevirtual 251, 3) := by decide +kernel
theorem dX7_orderFrom_103 : decode cX7_orderFrom 103 = .ok (.goto 4, 3) := by decide +kernel
theorem dX7_orderFrom_106 : decode cX7_orderFrom 106 = .ok (.iconst (-1), 1) := by decide +kernel
theorem dX7_orderFrom_107 : decode cX7_orderFrom 107 = .ok (.istore 6, 2) := by decide +kernel
theorem dX7_orderFrom_109 : decode cX7_orderFrom 109 = .ok (.aload_n 0, 1) := by decide +kernel
theorem dX7_orderFrom_110 : decode cX7_orderFrom 110 = .ok (.getfield 9, 3) := by decide +kernel
theorem dX7_orderFrom_113 : decode cX7_orderFrom 113 = .ok (.iload 5, 2) := by decide +kernel
theorem dX7_orderFrom_115 : decode cX7_orderFrom 115 = .ok (.iconst (-1), 1) := by decide +kernel
theorem dX7_orderFrom_116 : decode cX7_orderFrom 116 = .ok (.iastore, 1) := by decide +kernel
theorem dX7_orderFrom_117 : decode cX7_orderFrom 117 = .ok (.iload 6, 2) := by decide +kernel
theorem dX7_orderFrom_119 : decode cX7_orderFrom 119 = .ok (.iconst (-1), 1) := by decide +kernel
theorem dX7_orderFrom_120 : decode cX7_orderFrom 120 = .ok (.if_icmp .eq 6, 3) := by decide +kernel
theorem dX7_orderFrom_123 : decode cX7_orderFrom 123 = .ok (.iload 6, 2) := by decide +kernel
theorem dX7_orderFrom_125 : decode cX7_orderFrom 125 = .ok (.ireturn, 1) := by decide +kernel
theorem dX7_orderFrom_126 : decode cX7_orderFrom 126 = .ok (.iinc 5 1, 3) := by decide +kernel
theorem dX7_orderFrom_129 : decode cX7_orderFrom 129 = .ok (.goto (-100), 3) := by decide +kernel
theorem dX7_orderFrom_132 : decode cX7_orderFrom 132 = .ok (.iconst (-1), 1) := by decide +kernel
theorem dX7_orderFrom_133 : decode cX7_orderFrom 133 = .ok (.ireturn, 1) := by decide +kernel
theorem dX7_isNoHindrance_0 : decode cX7_isNoHindrance 0 = .ok (.iload_n 2, 1) := by decide +kernel
theorem dX7_isNoHindrance_1 : decode cX7_isNoHindrance 1 = .ok (.iload_n 1, 1) := by decide +kernel
theorem dX7_isNoHindrance_2 : decode cX7_isNoHindrance 2 = .ok (.ishr, 1) := by decide +kernel
theorem dX7_isNoHindrance_3 : decode cX7_isNoHindrance 3 = .ok (.iconst 1, 1) := by decide +kernel
theorem dX7_isNoHindrance_4 : decode cX7_isNoHindrance 4 = .ok (.iand, 1) := by decide +kernel
theorem dX7_isNoHindrance_5 : decode cX7_isNoHindrance 5 = .ok (.istore_n 3, 1) := by decide +kernel
theorem dX7_isNoHindrance_6 : decode cX7_isNoHindrance 6 = .ok (.iload_n 3, 1) := by decide +kernel
theorem dX7_isNoHindrance_7 : decode cX7_isNoHindrance 7 = .ok (.iconst 1, 1) := by decide +kernel
theorem dX7_isNoHindrance_8 : decode cX7_isNoHindrance 8 = .ok (.if_icmp .ne 7, 3) := by decide +kernel
theorem dX7_isNoHindrance_11 : decode cX7_isNoHindrance 11 = .ok (.iconst 0, 1) := by decide +kernel
theorem dX7_isNoHindrance_12 : decode cX7_isNoHindrance 12 = .ok (.goto 4, 3) := by decide +kernel
theorem dX7_isNoHindrance_15 : decode cX7_isNoHindrance 15 = .ok (.iconst 1, 1) := by decide +kernel
theorem dX7_isNoHindrance_16 : decode cX7_isNoHindrance 16 = .ok (.istore 4, 2) := by decide +kernel
theorem dX7_isNoHindrance_18 : decode cX7_isNoHindrance 18 = .ok (.iconst 0, 1) := by decide +kernel
theorem dX7_isNoHindrance_19 : decode cX7_isNoHindrance 19 = .ok (.istore 5, 2) := by decide +kernel
theorem dX7_isNoHindrance_21 : decode cX7_isNoHindrance 21 = .ok (.iload 5, 2) := by decide +kernel
theorem dX7_isNoHindrance_23 : decode cX7_isNoHindrance 23 = .ok (.aload_n 0, 1) := by decide +kernel
theorem dX7_isNoHindrance_24 : decode cX7_isNoHindrance 24 = .ok (.getfield 26, 3) := by decide +kernel
theorem dX7_isNoHindrance_27 : decode cX7_isNoHindrance 27 = .ok (.getfield 105, 3) := by decide +kernel
theorem dX7_isNoHindrance_30 : decode cX7_isNoHindrance 30 = .ok (.if_icmp .ge 66, 3) := by decide +kernel
theorem dX7_isNoHindrance_33 : decode cX7_isNoHindrance 33 = .ok (.iload_n 2, 1) := by decide +kernel
theorem dX7_isNoHindrance_34 : decode cX7_isNoHindrance 34 = .ok (.iload 5, 2) := by decide +kernel
theorem dX7_isNoHindrance_36 : decode cX7_isNoHindrance 36 = .ok (.ishr, 1) := by decide +kernel
theorem dX7_isNoHindrance_37 : decode cX7_isNoHindrance 37 = .ok (.iconst 1, 1) := by decide +kernel
theorem dX7_isNoHindrance_38 : decode cX7_isNoHindrance 38 = .ok (.iand, 1) := by decide +kernel
theorem dX7_isNoHindrance_39 : decode cX7_isNoHindrance 39 = .ok (.iload_n 3, 1) := by decide +kernel
theorem dX7_isNoHindrance_40 : decode cX7_isNoHindrance 40 = .ok (.if_icmp .eq 17, 3) := by decide +kernel
theorem dX7_isNoHindrance_43 : decode cX7_isNoHindrance 43 = .ok (.aload_n 0, 1) := by decide +kernel
theorem dX7_isNoHindrance_44 : decode cX7_isNoHindrance 44 = .ok (.iload 5, 2) := by decide +kernel
theorem dX7_isNoHindrance_46 : decode cX7_isNoHindrance 46 = .ok (.invokevirtual 329, 3) := by decide +kernel
theorem dX7_isNoHindrance_49 : decode cX7_isNoHindrance 49 = .ok (.iconst (-1), 1) := by decide +kernel
theorem dX7_isNoHindrance_50 : decode cX7_isNoHindrance 50 = .ok (.if_icmp .eq 7, 3) := by decide +kernel
theorem dX7_isNoHindrance_53 : decode cX7_isNoHindrance 53 = .ok (.iconst 1, 1) := by decide +kernel
theorem dX7_isNoHindrance_54 : decode cX7_isNoHindrance 54 = .ok (.goto 4, 3) := by decide +kernel
theorem dX7_isNoHindrance_57 : decode cX7_isNoHindrance 57 = .ok (.iconst 0, 1) := by decide +kernel
theorem dX7_isNoHindrance_58 : decode cX7_isNoHindrance 58 = .ok (.istore 6, 2) := by decide +kernel
theorem dX7_isNoHindrance_60 : decode cX7_isNoHindrance 60 = .ok (.iload 6, 2) := by decide +kernel
theorem dX7_isNoHindrance_62 : decode cX7_isNoHindrance 62 = .ok (.ifCond .eq 28, 3) := by decide +kernel
theorem dX7_isNoHindrance_65 : decode cX7_isNoHindrance 65 = .ok (.aload_n 0, 1) := by decide +kernel
theorem dX7_isNoHindrance_66 : decode cX7_isNoHindrance 66 = .ok (.getfield 26, 3) := by decide +kernel
theorem dX7_isNoHindrance_69 : decode cX7_isNoHindrance 69 = .ok (.aload_n 0, 1) := by decide +kernel
theorem dX7_isNoHindrance_70 : decode cX7_isNoHindrance 70 = .ok (.iload_n 1, 1) := by decide +kernel
theorem dX7_isNoHindrance_71 : decode cX7_isNoHindrance 71 = .ok (.invokevirtual 329, 3) := by decide +kernel
theorem dX7_isNoHindrance_74 : decode cX7_isNoHindrance 74 = .ok (.aload_n 0, 1) := by decide +kernel
theorem dX7_isNoHindrance_75 : decode cX7_isNoHindrance 75 = .ok (.iload 5, 2) := by decide +kernel
theorem dX7_isNoHindrance_77 : decode cX7_isNoHindrance 77 = .ok (.invokevirtual 329, 3) := by decide +kernel
theorem dX7_isNoHindrance_80 : decode cX7_isNoHindrance 80 = .ok (.invokevirtual 239, 3) := by decide +kernel
theorem dX7_isNoHindrance_83 : decode cX7_isNoHindrance 83 = .ok (.iload 4, 2) := by decide +kernel
theorem dX7_isNoHindrance_85 : decode cX7_isNoHindrance 85 = .ok (.if_icmp .eq 5, 3) := by decide +kernel
theorem dX7_isNoHindrance_88 : decode cX7_isNoHindrance 88 = .ok (.iconst 0, 1) := by decide +kernel
theorem dX7_isNoHindrance_89 : decode cX7_isNoHindrance 89 = .ok (.ireturn, 1) := by decide +kernel
theorem dX7_isNoHindrance_90 : decode cX7_isNoHindrance 90 = .ok (.iinc 5 1, 3) := by decide +kernel
theorem dX7_isNoHindrance_93 : decode cX7_isNoHindrance 93 = .ok (.goto (-72), 3) := by decide +kernel
theorem dX7_isNoHindrance_96 : decode cX7_isNoHindrance 96 = .ok (.iconst 1, 1) := by decide +kernel
theorem dX7_isNoHindrance_97 : decode cX7_isNoHindrance 97 = .ok (.ireturn, 1) := by decide +kernel
theorem dX7_setWins_0 : decode cX7_setWins 0 = .ok (.iconst 0, 1) := by decide +kernel
theorem dX7_setWins_1 : decode cX7_setWins 1 = .ok (.istore_n 2, 1) := by decide +kernel
theorem dX7_setWins_2 : decode cX7_setWins 2 = .ok (.iload_n 2, 1) := by decide +kernel
theorem dX7_setWins_3 : decode cX7_setWins 3 = .ok (.aload_n 0, 1) := by decide +kernel
theorem dX7_setWins_4 : decode cX7_setWins 4 = .ok (.getfield 26, 3) := by decide +kernel
theorem dX7_setWins_7 : decode cX7_setWins 7 = .ok (.getfield 105, 3) := by decide +kernel
theorem dX7_setWins_10 : decode cX7_setWins 10 = .ok (.if_icmp .ge 79, 3) := by decide +kernel
theorem dX7_setWins_13 : decode cX7_setWins 13 = .ok (.iconst 0, 1) := by decide +kernel
theorem dX7_setWins_14 : decode cX7_setWins 14 = .ok (.istore_n 3, 1) := by decide +kernel
theorem dX7_setWins_15 : decode cX7_setWins 15 = .ok (.iload_n 3, 1) := by decide +kernel
theorem dX7_setWins_16 : decode cX7_setWins 16 = .ok (.aload_n 0, 1) := by decide +kernel
theorem dX7_setWins_17 : decode cX7_setWins 17 = .ok (.getfield 26, 3) := by decide +kernel
theorem dX7_setWins_20 : decode cX7_setWins 20 = .ok (.getfield 105, 3) := by decide +kernel
theorem dX7_setWins_23 : decode cX7_setWins 23 = .ok (.if_icmp .ge 60, 3) := by decide +kernel
theorem dX7_setWins_26 : decode cX7_setWins 26 = .ok (.iload_n 1, 1) := by decide +kernel
theorem dX7_setWins_27 : decode cX7_setWins 27 = .ok (.iload_n 2, 1) := by decide +kernel
theorem dX7_setWins_28 : decode cX7_setWins 28 = .ok (.ishr, 1) := by decide +kernel
theorem dX7_setWins_29 : decode cX7_setWins 29 = .ok (.iconst 1, 1) := by decide +kernel
theorem dX7_setWins_30 : decode cX7_setWins 30 = .ok (.iand, 1) := by decide +kernel
theorem dX7_setWins_31 : decode cX7_setWins 31 = .ok (.iconst 1, 1) := by decide +kernel
theorem dX7_setWins_32 : decode cX7_setWins 32 = .ok (.if_icmp .ne 15, 3) := by decide +kernel
theorem dX7_setWins_35 : decode cX7_setWins 35 = .ok (.iload_n 1, 1) := by decide +kernel
theorem dX7_setWins_36 : decode cX7_setWins 36 = .ok (.iload_n 3, 1) := by decide +kernel
theorem dX7_setWins_37 : decode cX7_setWins 37 = .ok (.ishr, 1) := by decide +kernel
theorem dX7_setWins_38 : decode cX7_setWins 38 = .ok (.iconst 1, 1) := by decide +kernel
theorem dX7_setWins_39 : decode cX7_setWins 39 = .ok (.iand, 1) := by decide +kernel
theorem dX7_setWins_40 : decode cX7_setWins 40 = .ok (.ifCond .ne 7, 3) := by decide +kernel
theorem dX7_setWins_43 : decode cX7_setWins 43 = .ok (.iconst 1, 1) := by decide +kernel
theorem dX7_setWins_44 : decode cX7_setWins 44 = .ok (.goto 4, 3) := by decide +kernel
theorem dX7_setWins_47 : decode cX7_setWins 47 = .ok (.iconst 0, 1) := by decide +kernel
theorem dX7_setWins_48 : decode cX7_setWins 48 = .ok (.istore 4, 2) := by decide +kernel
theorem dX7_setWins_50 : decode cX7_setWins 50 = .ok (.iload 4, 2) := by decide +kernel
theorem dX7_setWins_52 : decode cX7_setWins 52 = .ok (.ifCond .eq 25, 3) := by decide +kernel
theorem dX7_setWins_55 : decode cX7_setWins 55 = .ok (.aload_n 0, 1) := by decide +kernel
theorem dX7_setWins_56 : decode cX7_setWins 56 = .ok (.getfield 26, 3) := by decide +kernel
theorem dX7_setWins_59 : decode cX7_setWins 59 = .ok (.aload_n 0, 1) := by decide +kernel
theorem dX7_setWins_60 : decode cX7_setWins 60 = .ok (.iload_n 2, 1) := by decide +kernel
theorem dX7_setWins_61 : decode cX7_setWins 61 = .ok (.invokevirtual 329, 3) := by decide +kernel
theorem dX7_setWins_64 : decode cX7_setWins 64 = .ok (.aload_n 0, 1) := by decide +kernel
theorem dX7_setWins_65 : decode cX7_setWins 65 = .ok (.iload_n 3, 1) := by decide +kernel
theorem dX7_setWins_66 : decode cX7_setWins 66 = .ok (.invokevirtual 329, 3) := by decide +kernel
theorem dX7_setWins_69 : decode cX7_setWins 69 = .ok (.invokevirtual 239, 3) := by decide +kernel
theorem dX7_setWins_72 : decode cX7_setWins 72 = .ok (.ifCond .eq 5, 3) := by decide +kernel
theorem dX7_setWins_75 : decode cX7_setWins 75 = .ok (.iconst 0, 1) := by decide +kernel
theorem dX7_setWins_76 : decode cX7_setWins 76 = .ok (.ireturn, 1) := by decide +kernel
theorem dX7_setWins_77 : decode cX7_setWins 77 = .ok (.iinc 3 1, 3) := by decide +kernel
theorem dX7_setWins_80 : decode cX7_setWins 80 = .ok (.goto (-65), 3) := by decide +kernel
theorem dX7_setWins_83 : decode cX7_setWins 83 = .ok (.iinc 2 1, 3) := by decide +kernel
theorem dX7_setWins_86 : decode cX7_setWins 86 = .ok (.goto (-84), 3) := by decide +kernel
theorem dX7_setWins_89 : decode cX7_setWins 89 = .ok (.iconst 1, 1) := by decide +kernel
theorem dX7_setWins_90 : decode cX7_setWins 90 = .ok (.ireturn, 1) := by decide +kernel
theorem dX7_wouldBe_0 : decode cX7_wouldBe 0 = .ok (.iload_n 1, 1) := by decide +kernel
theorem dX7_wouldBe_1 : decode cX7_wouldBe 1 = .ok (.ifCond .lt 9, 3) := by decide +kernel
theorem dX7_wouldBe_4 : decode cX7_wouldBe 4 = .ok (.iload_n 1, 1) := by decide +kernel
theorem dX7_wouldBe_5 : decode cX7_wouldBe 5 = .ok (.bipush 6, 2) := by decide +kernel
theorem dX7_wouldBe_7 : decode cX7_wouldBe 7 = .ok (.if_icmp .lt 7, 3) := by decide +kernel
theorem dX7_wouldBe_10 : decode cX7_wouldBe 10 = .ok (.iconst (-1), 1) := by decide +kernel
theorem dX7_wouldBe_11 : decode cX7_wouldBe 11 = .ok (.goto 9, 3) := by decide +kernel
theorem dX7_wouldBe_14 : decode cX7_wouldBe 14 = .ok (.aload_n 0, 1) := by decide +kernel
theorem dX7_wouldBe_15 : decode cX7_wouldBe 15 = .ok (.getfield 9, 3) := by decide +kernel
theorem dX7_wouldBe_18 : decode cX7_wouldBe 18 = .ok (.iload_n 1, 1) := by decide +kernel
theorem dX7_wouldBe_19 : decode cX7_wouldBe 19 = .ok (.iaload, 1) := by decide +kernel
theorem dX7_wouldBe_20 : decode cX7_wouldBe 20 = .ok (.ireturn, 1) := by decide +kernel
theorem dX7_placeAfter_0 : decode cX7_placeAfter 0 = .ok (.iload_n 0, 1) := by decide +kernel
theorem dX7_placeAfter_1 : decode cX7_placeAfter 1 = .ok (.ifCond .ne 26, 3) := by decide +kernel
theorem dX7_placeAfter_4 : decode cX7_placeAfter 4 = .ok (.iload_n 2, 1) := by decide +kernel
theorem dX7_placeAfter_5 : decode cX7_placeAfter 5 = .ok (.iconst 2, 1) := by decide +kernel
theorem dX7_placeAfter_6 : decode cX7_placeAfter 6 = .ok (.idiv, 1) := by decide +kernel
theorem dX7_placeAfter_7 : decode cX7_placeAfter 7 = .ok (.istore_n 3, 1) := by decide +kernel
theorem dX7_placeAfter_8 : decode cX7_placeAfter 8 = .ok (.iload_n 1, 1) := by decide +kernel
theorem dX7_placeAfter_9 : decode cX7_placeAfter 9 = .ok (.iload_n 3, 1) := by decide +kernel
theorem dX7_placeAfter_10 : decode cX7_placeAfter 10 = .ok (.if_icmp .ge 11, 3) := by decide +kernel
theorem dX7_placeAfter_13 : decode cX7_placeAfter 13 = .ok (.iconst 2, 1) := by decide +kernel
theorem dX7_placeAfter_14 : decode cX7_placeAfter 14 = .ok (.iload_n 1, 1) := by decide +kernel
theorem dX7_placeAfter_15 : decode cX7_placeAfter 15 = .ok (.imul, 1) := by decide +kernel
theorem dX7_placeAfter_16 : decode cX7_placeAfter 16 = .ok (.iconst 1, 1) := by decide +kernel
theorem dX7_placeAfter_17 : decode cX7_placeAfter 17 = .ok (.iadd, 1) := by decide +kernel
theorem dX7_placeAfter_18 : decode cX7_placeAfter 18 = .ok (.goto 8, 3) := by decide +kernel
theorem dX7_placeAfter_21 : decode cX7_placeAfter 21 = .ok (.iconst 2, 1) := by decide +kernel
theorem dX7_placeAfter_22 : decode cX7_placeAfter 22 = .ok (.iload_n 1, 1) := by decide +kernel
theorem dX7_placeAfter_23 : decode cX7_placeAfter 23 = .ok (.iload_n 3, 1) := by decide +kernel
theorem dX7_placeAfter_24 : decode cX7_placeAfter 24 = .ok (.isub, 1) := by decide +kernel
theorem dX7_placeAfter_25 : decode cX7_placeAfter 25 = .ok (.imul, 1) := by decide +kernel
theorem dX7_placeAfter_26 : decode cX7_placeAfter 26 = .ok (.ireturn, 1) := by decide +kernel
theorem dX7_placeAfter_27 : decode cX7_placeAfter 27 = .ok (.iload_n 0, 1) := by decide +kernel
theorem dX7_placeAfter_28 : decode cX7_placeAfter 28 = .ok (.iconst 1, 1) := by decide +kernel
theorem dX7_placeAfter_29 : decode cX7_placeAfter 29 = .ok (.if_icmp .ne 9, 3) := by decide +kernel
theorem dX7_placeAfter_32 : decode cX7_placeAfter 32 = .ok (.iload_n 2, 1) := by decide +kernel
theorem dX7_placeAfter_33 : decode cX7_placeAfter 33 = .ok (.iconst 1, 1) := by decide +kernel
theorem dX7_placeAfter_34 : decode cX7_placeAfter 34 = .ok (.isub, 1) := by decide +kernel
theorem dX7_placeAfter_35 : decode cX7_placeAfter 35 = .ok (.iload_n 1, 1) := by decide +kernel
theorem dX7_placeAfter_36 : decode cX7_placeAfter 36 = .ok (.isub, 1) := by decide +kernel
theorem dX7_placeAfter_37 : decode cX7_placeAfter 37 = .ok (.ireturn, 1) := by decide +kernel
theorem dX7_placeAfter_38 : decode cX7_placeAfter 38 = .ok (.iload_n 1, 1) := by decide +kernel
theorem dX7_placeAfter_39 : decode cX7_placeAfter 39 = .ok (.ifCond .ne 9, 3) := by decide +kernel
theorem dX7_placeAfter_42 : decode cX7_placeAfter 42 = .ok (.iload_n 2, 1) := by decide +kernel
theorem dX7_placeAfter_43 : decode cX7_placeAfter 43 = .ok (.iconst 1, 1) := by decide +kernel
theorem dX7_placeAfter_44 : decode cX7_placeAfter 44 = .ok (.isub, 1) := by decide +kernel
theorem dX7_placeAfter_45 : decode cX7_placeAfter 45 = .ok (.goto 6, 3) := by decide +kernel
theorem dX7_placeAfter_48 : decode cX7_placeAfter 48 = .ok (.iload_n 1, 1) := by decide +kernel
theorem dX7_placeAfter_49 : decode cX7_placeAfter 49 = .ok (.iconst 1, 1) := by decide +kernel
theorem dX7_placeAfter_50 : decode cX7_placeAfter 50 = .ok (.isub, 1) := by decide +kernel
theorem dX7_placeAfter_51 : decode cX7_placeAfter 51 = .ok (.ireturn, 1) := by decide +kernel
theorem dX7_countSteps_0 : decode cX7_countSteps 0 = .ok (.aload_n 0, 1) := by decide +kernel
theorem dX7_countSteps_1 : decode cX7_countSteps 1 = .ok (.getfield 13, 3) := by decide +kernel
theorem dX7_countSteps_4 : decode cX7_countSteps 4 = .ok (.iconst (-1), 1) := by decide +kernel
theorem dX7_countSteps_5 : decode cX7_countSteps 5 = .ok (.invokestatic 332, 3) := by decide +kernel
theorem dX7_countSteps_8 : decode cX7_countSteps 8 = .ok (.iload_n 1, 1) := by decide +kernel
theorem dX7_countSteps_9 : decode cX7_countSteps 9 = .ok (.ifCond .lt 9, 3) := by decide +kernel
theorem dX7_countSteps_12 : decode cX7_countSteps 12 = .ok (.iload_n 1, 1) := by decide +kernel
theorem dX7_countSteps_13 : decode cX7_countSteps 13 = .ok (.bipush 12, 2) := by decide +kernel
theorem dX7_countSteps_15 : decode cX7_countSteps 15 = .ok (.if_icmp .lt 4, 3) := by decide +kernel
theorem dX7_countSteps_18 : decode cX7_countSteps 18 = .ok (.return_, 1) := by decide +kernel
theorem dX7_countSteps_19 : decode cX7_countSteps 19 = .ok (.aload_n 0, 1) := by decide +kernel
theorem dX7_countSteps_20 : decode cX7_countSteps 20 = .ok (.getfield 13, 3) := by decide +kernel
theorem dX7_countSteps_23 : decode cX7_countSteps 23 = .ok (.iload_n 1, 1) := by decide +kernel
theorem dX7_countSteps_24 : decode cX7_countSteps 24 = .ok (.iconst 0, 1) := by decide +kernel
theorem dX7_countSteps_25 : decode cX7_countSteps 25 = .ok (.iastore, 1) := by decide +kernel
theorem dX7_countSteps_26 : decode cX7_countSteps 26 = .ok (.iconst 1, 1) := by decide +kernel
theorem dX7_countSteps_27 : decode cX7_countSteps 27 = .ok (.istore_n 2, 1) := by decide +kernel
theorem dX7_countSteps_28 : decode cX7_countSteps 28 = .ok (.iload_n 2, 1) := by decide +kernel
theorem dX7_countSteps_29 : decode cX7_countSteps 29 = .ok (.bipush 10, 2) := by decide +kernel
theorem dX7_countSteps_31 : decode cX7_countSteps 31 = .ok (.if_icmp .gt 62, 3) := by decide +kernel
theorem dX7_countSteps_34 : decode cX7_countSteps 34 = .ok (.iconst 0, 1) := by decide +kernel
theorem dX7_countSteps_35 : decode cX7_countSteps 35 = .ok (.istore_n 3, 1) := by decide +kernel
theorem dX7_countSteps_36 : decode cX7_countSteps 36 = .ok (.iload_n 3, 1) := by decide +kernel
theorem dX7_countSteps_37 : decode cX7_countSteps 37 = .ok (.aload_n 0, 1) := by decide +kernel
theorem dX7_countSteps_38 : decode cX7_countSteps 38 = .ok (.getfield 33, 3) := by decide +kernel
theorem dX7_countSteps_41 : decode cX7_countSteps 41 = .ok (.getfield 120, 3) := by decide +kernel
theorem dX7_countSteps_44 : decode cX7_countSteps 44 = .ok (.if_icmp .ge 43, 3) := by decide +kernel
theorem dX7_countSteps_47 : decode cX7_countSteps 47 = .ok (.iload_n 3, 1) := by decide +kernel
theorem dX7_countSteps_48 : decode cX7_countSteps 48 = .ok (.bipush 12, 2) := by decide +kernel
theorem dX7_countSteps_50 : decode cX7_countSteps 50 = .ok (.if_icmp .ge 37, 3) := by decide +kernel
theorem dX7_countSteps_53 : decode cX7_countSteps 53 = .ok (.aload_n 0, 1) := by decide +kernel
theorem dX7_countSteps_54 : decode cX7_countSteps 54 = .ok (.iload_n 3, 1) := by decide +kernel
theorem dX7_countSteps_55 : decode cX7_countSteps 55 = .ok (.invokevirtual 258, 3) := by decide +kernel
theorem dX7_countSteps_58 : decode cX7_countSteps 58 = .ok (.iconst (-1), 1) := by decide +kernel
theorem dX7_countSteps_59 : decode cX7_countSteps 59 = .ok (.if_icmp .ne 22, 3) := by decide +kernel
theorem dX7_countSteps_62 : decode cX7_countSteps 62 = .ok (.aload_n 0, 1) := by decide +kernel
theorem dX7_countSteps_63 : decode cX7_countSteps 63 = .ok (.iload_n 3, 1) := by decide +kernel
theorem dX7_countSteps_64 : decode cX7_countSteps 64 = .ok (.iload_n 2, 1) := by decide +kernel
theorem dX7_countSteps_65 : decode cX7_countSteps 65 = .ok (.iconst 1, 1) := by decide +kernel
theorem dX7_countSteps_66 : decode cX7_countSteps 66 = .ok (.isub, 1) := by decide +kernel
theorem dX7_countSteps_67 : decode cX7_countSteps 67 = .ok (.invokevirtual 338, 3) := by decide +kernel
theorem dX7_countSteps_70 : decode cX7_countSteps 70 = .ok (.iconst (-1), 1) := by decide +kernel
theorem dX7_countSteps_71 : decode cX7_countSteps 71 = .ok (.if_icmp .eq 10, 3) := by decide +kernel
theorem dX7_countSteps_74 : decode cX7_countSteps 74 = .ok (.aload_n 0, 1) := by decide +kernel
theorem dX7_countSteps_75 : decode cX7_countSteps 75 = .ok (.getfield 13, 3) := by decide +kernel
theorem dX7_countSteps_78 : decode cX7_countSteps 78 = .ok (.iload_n 3, 1) := by decide +kernel
theorem dX7_countSteps_79 : decode cX7_countSteps 79 = .ok (.iload_n 2, 1) := by decide +kernel
theorem dX7_countSteps_80 : decode cX7_countSteps 80 = .ok (.iastore, 1) := by decide +kernel
theorem dX7_countSteps_81 : decode cX7_countSteps 81 = .ok (.iinc 3 1, 3) := by decide +kernel
theorem dX7_countSteps_84 : decode cX7_countSteps 84 = .ok (.goto (-48), 3) := by decide +kernel
theorem dX7_countSteps_87 : decode cX7_countSteps 87 = .ok (.iinc 2 1, 3) := by decide +kernel
theorem dX7_countSteps_90 : decode cX7_countSteps 90 = .ok (.goto (-62), 3) := by decide +kernel
theorem dX7_countSteps_93 : decode cX7_countSteps 93 = .ok (.return_, 1) := by decide +kernel
theorem dX7_stepsFrom_0 : decode cX7_stepsFrom 0 = .ok (.iload_n 1, 1) := by decide +kernel
theorem dX7_stepsFrom_1 : decode cX7_stepsFrom 1 = .ok (.ifCond .lt 9, 3) := by decide +kernel
theorem dX7_stepsFrom_4 : decode cX7_stepsFrom 4 = .ok (.iload_n 1, 1) := by decide +kernel
theorem dX7_stepsFrom_5 : decode cX7_stepsFrom 5 = .ok (.bipush 12, 2) := by decide +kernel
theorem dX7_stepsFrom_7 : decode cX7_stepsFrom 7 = .ok (.if_icmp .lt 7, 3) := by decide +kernel
theorem dX7_stepsFrom_10 : decode cX7_stepsFrom 10 = .ok (.iconst (-1), 1) := by decide +kernel
theorem dX7_stepsFrom_11 : decode cX7_stepsFrom 11 = .ok (.goto 9, 3) := by decide +kernel
theorem dX7_stepsFrom_14 : decode cX7_stepsFrom 14 = .ok (.aload_n 0, 1) := by decide +kernel
theorem dX7_stepsFrom_15 : decode cX7_stepsFrom 15 = .ok (.getfield 13, 3) := by decide +kernel
theorem dX7_stepsFrom_18 : decode cX7_stepsFrom 18 = .ok (.iload_n 1, 1) := by decide +kernel
theorem dX7_stepsFrom_19 : decode cX7_stepsFrom 19 = .ok (.iaload, 1) := by decide +kernel
theorem dX7_stepsFrom_20 : decode cX7_stepsFrom 20 = .ok (.ireturn, 1) := by decide +kernel
theorem dX7_stepTo_0 : decode cX7_stepTo 0 = .ok (.iconst 0, 1) := by decide +kernel
theorem dX7_stepTo_1 : decode cX7_stepTo 1 = .ok (.istore_n 3, 1) := by decide +kernel
theorem dX7_stepTo_2 : decode cX7_stepTo 2 = .ok (.iload_n 3, 1) := by decide +kernel
theorem dX7_stepTo_3 : decode cX7_stepTo 3 = .ok (.iconst 3, 1) := by decide +kernel
theorem dX7_stepTo_4 : decode cX7_stepTo 4 = .ok (.if_icmp .ge 31, 3) := by decide +kernel
theorem dX7_stepTo_7 : decode cX7_stepTo 7 = .ok (.aload_n 0, 1) := by decide +kernel
theorem dX7_stepTo_8 : decode cX7_stepTo 8 = .ok (.iload_n 3, 1) := by decide +kernel
theorem dX7_stepTo_9 : decode cX7_stepTo 9 = .ok (.iload_n 1, 1) := by decide +kernel
theorem dX7_stepTo_10 : decode cX7_stepTo 10 = .ok (.aload_n 0, 1) := by decide +kernel
theorem dX7_stepTo_11 : decode cX7_stepTo 11 = .ok (.getfield 33, 3) := by decide +kernel
theorem dX7_stepTo_14 : decode cX7_stepTo 14 = .ok (.getfield 120, 3) := by decide +kernel
theorem dX7_stepTo_17 : decode cX7_stepTo 17 = .ok (.invokestatic 341, 3) := by decide +kernel
theorem dX7_stepTo_20 : decode cX7_stepTo 20 = .ok (.invokevirtual 258, 3) := by decide +kernel
theorem dX7_stepTo_23 : decode cX7_stepTo 23 = .ok (.iload_n 2, 1) := by decide +kernel
theorem dX7_stepTo_24 : decode cX7_stepTo 24 = .ok (.if_icmp .ne 5, 3) := by decide +kernel
theorem dX7_stepTo_27 : decode cX7_stepTo 27 = .ok (.iload_n 3, 1) := by decide +kernel
theorem dX7_stepTo_28 : decode cX7_stepTo 28 = .ok (.ireturn, 1) := by decide +kernel
theorem dX7_stepTo_29 : decode cX7_stepTo 29 = .ok (.iinc 3 1, 3) := by decide +kernel
theorem dX7_stepTo_32 : decode cX7_stepTo 32 = .ok (.goto (-30), 3) := by decide +kernel
theorem dX7_stepTo_35 : decode cX7_stepTo 35 = .ok (.iconst (-1), 1) := by decide +kernel
theorem dX7_stepTo_36 : decode cX7_stepTo 36 = .ok (.ireturn, 1) := by decide +kernel
theorem dX7_firstStep_0 : decode cX7_firstStep 0 = .ok (.iload_n 2, 1) := by decide +kernel
theorem dX7_firstStep_1 : decode cX7_firstStep 1 = .ok (.ifCond .gt 7, 3) := by decide +kernel
theorem dX7_firstStep_4 : decode cX7_firstStep 4 = .ok (.iconst (-1), 1) := by decide +kernel
theorem dX7_firstStep_5 : decode cX7_firstStep 5 = .ok (.goto 11, 3) := by decide +kernel
theorem dX7_firstStep_8 : decode cX7_firstStep 8 = .ok (.aload_n 0, 1) := by decide +kernel
theorem dX7_firstStep_9 : decode cX7_firstStep 9 = .ok (.iload_n 1, 1) := by decide +kernel
theorem dX7_firstStep_10 : decode cX7_firstStep 10 = .ok (.iload_n 2, 1) := by decide +kernel
theorem dX7_firstStep_11 : decode cX7_firstStep 11 = .ok (.iconst 1, 1) := by decide +kernel
theorem dX7_firstStep_12 : decode cX7_firstStep 12 = .ok (.isub, 1) := by decide +kernel
theorem dX7_firstStep_13 : decode cX7_firstStep 13 = .ok (.invokevirtual 338, 3) := by decide +kernel
theorem dX7_firstStep_16 : decode cX7_firstStep 16 = .ok (.ireturn, 1) := by decide +kernel
theorem dX7_heldRules_0 : decode cX7_heldRules 0 = .ok (.iconst 0, 1) := by decide +kernel
theorem dX7_heldRules_1 : decode cX7_heldRules 1 = .ok (.istore_n 1, 1) := by decide +kernel
theorem dX7_heldRules_2 : decode cX7_heldRules 2 = .ok (.iconst 0, 1) := by decide +kernel
theorem dX7_heldRules_3 : decode cX7_heldRules 3 = .ok (.istore_n 2, 1) := by decide +kernel
theorem dX7_heldRules_4 : decode cX7_heldRules 4 = .ok (.iload_n 2, 1) := by decide +kernel
theorem dX7_heldRules_5 : decode cX7_heldRules 5 = .ok (.bipush 10, 2) := by decide +kernel
theorem dX7_heldRules_7 : decode cX7_heldRules 7 = .ok (.if_icmp .ge 23, 3) := by decide +kernel
theorem dX7_heldRules_10 : decode cX7_heldRules 10 = .ok (.aload_n 0, 1) := by decide +kernel
theorem dX7_heldRules_11 : decode cX7_heldRules 11 = .ok (.iload_n 2, 1) := by decide +kernel
theorem dX7_heldRules_12 : decode cX7_heldRules 12 = .ok (.invokevirtual 344, 3) := by decide +kernel
theorem dX7_heldRules_15 : decode cX7_heldRules 15 = .ok (.ifCond .eq 9, 3) := by decide +kernel
theorem dX7_heldRules_18 : decode cX7_heldRules 18 = .ok (.iload_n 1, 1) := by decide +kernel
theorem dX7_heldRules_19 : decode cX7_heldRules 19 = .ok (.iconst 1, 1) := by decide +kernel
theorem dX7_heldRules_20 : decode cX7_heldRules 20 = .ok (.iload_n 2, 1) := by decide +kernel
theorem dX7_heldRules_21 : decode cX7_heldRules 21 = .ok (.ishl, 1) := by decide +kernel
theorem dX7_heldRules_22 : decode cX7_heldRules 22 = .ok (.ior, 1) := by decide +kernel
theorem dX7_heldRules_23 : decode cX7_heldRules 23 = .ok (.istore_n 1, 1) := by decide +kernel
theorem dX7_heldRules_24 : decode cX7_heldRules 24 = .ok (.iinc 2 1, 3) := by decide +kernel
theorem dX7_heldRules_27 : decode cX7_heldRules 27 = .ok (.goto (-23), 3) := by decide +kernel
theorem dX7_heldRules_30 : decode cX7_heldRules 30 = .ok (.iload_n 1, 1) := by decide +kernel
theorem dX7_heldRules_31 : decode cX7_heldRules 31 = .ok (.ireturn, 1) := by decide +kernel
theorem dX7_fitsLog_0 : decode cX7_fitsLog 0 = .ok (.iconst 0, 1) := by decide +kernel
theorem dX7_fitsLog_1 : decode cX7_fitsLog 1 = .ok (.istore_n 2, 1) := by decide +kernel
theorem dX7_fitsLog_2 : decode cX7_fitsLog 2 = .ok (.iload_n 2, 1) := by decide +kernel
theorem dX7_fitsLog_3 : decode cX7_fitsLog 3 = .ok (.aload_n 0, 1) := by decide +kernel
theorem dX7_fitsLog_4 : decode cX7_fitsLog 4 = .ok (.getfield 33, 3) := by decide +kernel
theorem dX7_fitsLog_7 : decode cX7_fitsLog 7 = .ok (.getfield 133, 3) := by decide +kernel
theorem dX7_fitsLog_10 : decode cX7_fitsLog 10 = .ok (.if_icmp .ge 63, 3) := by decide +kernel
theorem dX7_fitsLog_13 : decode cX7_fitsLog 13 = .ok (.aload_n 0, 1) := by decide +kernel
theorem dX7_fitsLog_14 : decode cX7_fitsLog 14 = .ok (.getfield 33, 3) := by decide +kernel
theorem dX7_fitsLog_17 : decode cX7_fitsLog 17 = .ok (.iload_n 2, 1) := by decide +kernel
theorem dX7_fitsLog_18 : decode cX7_fitsLog 18 = .ok (.invokevirtual 179, 3) := by decide +kernel
theorem dX7_fitsLog_21 : decode cX7_fitsLog 21 = .ok (.istore_n 3, 1) := by decide +kernel
theorem dX7_fitsLog_22 : decode cX7_fitsLog 22 = .ok (.iload_n 3, 1) := by decide +kernel
theorem dX7_fitsLog_23 : decode cX7_fitsLog 23 = .ok (.invokestatic 347, 3) := by decide +kernel
theorem dX7_fitsLog_26 : decode cX7_fitsLog 26 = .ok (.istore 4, 2) := by decide +kernel
theorem dX7_fitsLog_28 : decode cX7_fitsLog 28 = .ok (.iload_n 3, 1) := by decide +kernel
theorem dX7_fitsLog_29 : decode cX7_fitsLog 29 = .ok (.invokestatic 350, 3) := by decide +kernel
theorem dX7_fitsLog_32 : decode cX7_fitsLog 32 = .ok (.istore 5, 2) := by decide +kernel
theorem dX7_fitsLog_34 : decode cX7_fitsLog 34 = .ok (.iload 4, 2) := by decide +kernel
theorem dX7_fitsLog_36 : decode cX7_fitsLog 36 = .ok (.iconst (-1), 1) := by decide +kernel
theorem dX7_fitsLog_37 : decode cX7_fitsLog 37 = .ok (.if_icmp .eq 30, 3) := by decide +kernel
theorem dX7_fitsLog_40 : decode cX7_fitsLog 40 = .ok (.iload 5, 2) := by decide +kernel
theorem dX7_fitsLog_42 : decode cX7_fitsLog 42 = .ok (.iconst (-1), 1) := by decide +kernel
theorem dX7_fitsLog_43 : decode cX7_fitsLog 43 = .ok (.if_icmp .eq 24, 3) := by decide +kernel
theorem dX7_fitsLog_46 : decode cX7_fitsLog 46 = .ok (.aload_n 0, 1) := by decide +kernel
theorem dX7_fitsLog_47 : decode cX7_fitsLog 47 = .ok (.getfield 26, 3) := by decide +kernel
theorem dX7_fitsLog_50 : decode cX7_fitsLog 50 = .ok (.iload 4, 2) := by decide +kernel
theorem dX7_fitsLog_52 : decode cX7_fitsLog 52 = .ok (.iload 5, 2) := by decide +kernel
theorem dX7_fitsLog_54 : decode cX7_fitsLog 54 = .ok (.iload_n 1, 1) := by decide +kernel
theorem dX7_fitsLog_55 : decode cX7_fitsLog 55 = .ok (.invokevirtual 353, 3) := by decide +kernel
theorem dX7_fitsLog_58 : decode cX7_fitsLog 58 = .ok (.iload_n 3, 1) := by decide +kernel
theorem dX7_fitsLog_59 : decode cX7_fitsLog 59 = .ok (.invokestatic 188, 3) := by decide +kernel
theorem dX7_fitsLog_62 : decode cX7_fitsLog 62 = .ok (.if_icmp .eq 5, 3) := by decide +kernel
theorem dX7_fitsLog_65 : decode cX7_fitsLog 65 = .ok (.iconst 0, 1) := by decide +kernel
theorem dX7_fitsLog_66 : decode cX7_fitsLog 66 = .ok (.ireturn, 1) := by decide +kernel
theorem dX7_fitsLog_67 : decode cX7_fitsLog 67 = .ok (.iinc 2 1, 3) := by decide +kernel
theorem dX7_fitsLog_70 : decode cX7_fitsLog 70 = .ok (.goto (-68), 3) := by decide +kernel
theorem dX7_fitsLog_73 : decode cX7_fitsLog 73 = .ok (.iconst 1, 1) := by decide +kernel
theorem dX7_fitsLog_74 : decode cX7_fitsLog 74 = .ok (.ireturn, 1) := by decide +kernel
theorem dX7_greatestPart_0 : decode cX7_greatestPart 0 = .ok (.iconst 0, 1) := by decide +kernel
theorem dX7_greatestPart_1 : decode cX7_greatestPart 1 = .ok (.istore 4, 2) := by decide +kernel
theorem dX7_greatestPart_3 : decode cX7_greatestPart 3 = .ok (.iconst 0, 1) := by decide +kernel
theorem dX7_greatestPart_4 : decode cX7_greatestPart 4 = .ok (.istore 5, 2) := by decide +kernel
theorem dX7_greatestPart_6 : decode cX7_greatestPart 6 = .ok (.iconst 0, 1) := by decide +kernel
theorem dX7_greatestPart_7 : decode cX7_greatestPart 7 = .ok (.istore 6, 2) := by decide +kernel
theorem dX7_greatestPart_9 : decode cX7_greatestPart 9 = .ok (.iconst 0, 1) := by decide +kernel
theorem dX7_greatestPart_10 : decode cX7_greatestPart 10 = .ok (.istore 7, 2) := by decide +kernel
theorem dX7_greatestPart_12 : decode cX7_greatestPart 12 = .ok (.iload 7, 2) := by decide +kernel
theorem dX7_greatestPart_14 : decode cX7_greatestPart 14 = .ok (.bipush 10, 2) := by decide +kernel
theorem dX7_greatestPart_16 : decode cX7_greatestPart 16 = .ok (.if_icmp .ge 58, 3) := by decide +kernel
theorem dX7_greatestPart_19 : decode cX7_greatestPart 19 = .ok (.iload_n 3, 1) := by decide +kernel
theorem dX7_greatestPart_20 : decode cX7_greatestPart 20 = .ok (.iload 7, 2) := by decide +kernel
theorem dX7_greatestPart_22 : decode cX7_greatestPart 22 = .ok (.ishr, 1) := by decide +kernel
theorem dX7_greatestPart_23 : decode cX7_greatestPart 23 = .ok (.iconst 1, 1) := by decide +kernel
theorem dX7_greatestPart_24 : decode cX7_greatestPart 24 = .ok (.iand, 1) := by decide +kernel
theorem dX7_greatestPart_25 : decode cX7_greatestPart 25 = .ok (.iconst 1, 1) := by decide +kernel
theorem dX7_greatestPart_26 : decode cX7_greatestPart 26 = .ok (.if_icmp .ne 42, 3) := by decide +kernel
theorem dX7_greatestPart_29 : decode cX7_greatestPart 29 = .ok (.aload_n 0, 1) := by decide +kernel
theorem dX7_greatestPart_30 : decode cX7_greatestPart 30 = .ok (.getfield 26, 3) := by decide +kernel
theorem dX7_greatestPart_33 : decode cX7_greatestPart 33 = .ok (.iload_n 1, 1) := by decide +kernel
theorem dX7_greatestPart_34 : decode cX7_greatestPart 34 = .ok (.iload_n 2, 1) := by decide +kernel
theorem dX7_greatestPart_35 : decode cX7_greatestPart 35 = .ok (.iload 7, 2) := by decide +kernel
theorem dX7_greatestPart_37 : decode cX7_greatestPart 37 = .ok (.invokevirtual 353, 3) := by decide +kernel
theorem dX7_greatestPart_40 : decode cX7_greatestPart 40 = .ok (.istore 8, 2) := by decide +kernel
theorem dX7_greatestPart_42 : decode cX7_greatestPart 42 = .ok (.iload 8, 2) := by decide +kernel
theorem dX7_greatestPart_44 : decode cX7_greatestPart 44 = .ok (.ifCond .ne 9, 3) := by decide +kernel
theorem dX7_greatestPart_47 : decode cX7_greatestPart 47 = .ok (.iinc 4 1, 3) := by decide +kernel
theorem dX7_greatestPart_50 : decode cX7_greatestPart 50 = .ok (.goto 18, 3) := by decide +kernel
theorem dX7_greatestPart_53 : decode cX7_greatestPart 53 = .ok (.iload 8, 2) := by decide +kernel
theorem dX7_greatestPart_55 : decode cX7_greatestPart 55 = .ok (.iconst 1, 1) := by decide +kernel
theorem dX7_greatestPart_56 : decode cX7_greatestPart 56 = .ok (.if_icmp .ne 9, 3) := by decide +kernel
theorem dX7_greatestPart_59 : decode cX7_greatestPart 59 = .ok (.iinc 5 1, 3) := by decide +kernel
theorem dX7_greatestPart_62 : decode cX7_greatestPart 62 = .ok (.goto 6, 3) := by decide +kernel
theorem dX7_greatestPart_65 : decode cX7_greatestPart 65 = .ok (.iinc 6 1, 3) := by decide +kernel
theorem dX7_greatestPart_68 : decode cX7_greatestPart 68 = .ok (.iinc 7 1, 3) := by decide +kernel
theorem dX7_greatestPart_71 : decode cX7_greatestPart 71 = .ok (.goto (-59), 3) := by decide +kernel
theorem dX7_greatestPart_74 : decode cX7_greatestPart 74 = .ok (.iload 4, 2) := by decide +kernel
theorem dX7_greatestPart_76 : decode cX7_greatestPart 76 = .ok (.iload 5, 2) := by decide +kernel
theorem dX7_greatestPart_78 : decode cX7_greatestPart 78 = .ok (.iload 6, 2) := by decide +kernel
theorem dX7_greatestPart_80 : decode cX7_greatestPart 80 = .ok (.invokestatic 356, 3) := by decide +kernel
theorem dX7_greatestPart_83 : decode cX7_greatestPart 83 = .ok (.invokestatic 356, 3) := by decide +kernel
theorem dX7_greatestPart_86 : decode cX7_greatestPart 86 = .ok (.ireturn, 1) := by decide +kernel
