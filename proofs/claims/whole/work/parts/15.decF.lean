theorem dX8_ruler_3 : decode cX8_ruler 3 = .ok (.istore_n 2, 1) := by decide +kernel
theorem dX8_ruler_4 : decode cX8_ruler 4 = .ok (.iconst 0, 1) := by decide +kernel
theorem dX8_ruler_5 : decode cX8_ruler 5 = .ok (.istore_n 3, 1) := by decide +kernel
theorem dX8_ruler_6 : decode cX8_ruler 6 = .ok (.iload_n 3, 1) := by decide +kernel
theorem dX8_ruler_7 : decode cX8_ruler 7 = .ok (.aload_n 0, 1) := by decide +kernel
theorem dX8_ruler_8 : decode cX8_ruler 8 = .ok (.getfield 75, 3) := by decide +kernel
theorem dX8_ruler_11 : decode cX8_ruler 11 = .ok (.if_icmp .ge 44, 3) := by decide +kernel
theorem dX8_ruler_14 : decode cX8_ruler 14 = .ok (.aload_n 0, 1) := by decide +kernel
theorem dX8_ruler_15 : decode cX8_ruler 15 = .ok (.iload_n 3, 1) := by decide +kernel
theorem dX8_ruler_16 : decode cX8_ruler 16 = .ok (.invokevirtual 180, 3) := by decide +kernel
theorem dX8_ruler_19 : decode cX8_ruler 19 = .ok (.invokestatic 184, 3) := by decide +kernel
theorem dX8_ruler_22 : decode cX8_ruler 22 = .ok (.istore 4, 2) := by decide +kernel
theorem dX8_ruler_24 : decode cX8_ruler 24 = .ok (.iload 4, 2) := by decide +kernel
theorem dX8_ruler_26 : decode cX8_ruler 26 = .ok (.iload_n 2, 1) := by decide +kernel
theorem dX8_ruler_27 : decode cX8_ruler 27 = .ok (.if_icmp .le 7, 3) := by decide +kernel
theorem dX8_ruler_30 : decode cX8_ruler 30 = .ok (.iload_n 3, 1) := by decide +kernel
theorem dX8_ruler_31 : decode cX8_ruler 31 = .ok (.goto 4, 3) := by decide +kernel
theorem dX8_ruler_34 : decode cX8_ruler 34 = .ok (.iload_n 1, 1) := by decide +kernel
theorem dX8_ruler_35 : decode cX8_ruler 35 = .ok (.istore_n 1, 1) := by decide +kernel
theorem dX8_ruler_36 : decode cX8_ruler 36 = .ok (.iload 4, 2) := by decide +kernel
theorem dX8_ruler_38 : decode cX8_ruler 38 = .ok (.iload_n 2, 1) := by decide +kernel
theorem dX8_ruler_39 : decode cX8_ruler 39 = .ok (.if_icmp .le 8, 3) := by decide +kernel
theorem dX8_ruler_42 : decode cX8_ruler 42 = .ok (.iload 4, 2) := by decide +kernel
theorem dX8_ruler_44 : decode cX8_ruler 44 = .ok (.goto 4, 3) := by decide +kernel
theorem dX8_ruler_47 : decode cX8_ruler 47 = .ok (.iload_n 2, 1) := by decide +kernel
theorem dX8_ruler_48 : decode cX8_ruler 48 = .ok (.istore_n 2, 1) := by decide +kernel
theorem dX8_ruler_49 : decode cX8_ruler 49 = .ok (.iinc 3 1, 3) := by decide +kernel
theorem dX8_ruler_52 : decode cX8_ruler 52 = .ok (.goto (-46), 3) := by decide +kernel
theorem dX8_ruler_55 : decode cX8_ruler 55 = .ok (.iload_n 1, 1) := by decide +kernel
theorem dX8_ruler_56 : decode cX8_ruler 56 = .ok (.ireturn, 1) := by decide +kernel
theorem dX8_logOne_0 : decode cX8_logOne 0 = .ok (.aload_n 0, 1) := by decide +kernel
theorem dX8_logOne_1 : decode cX8_logOne 1 = .ok (.getfield 16, 3) := by decide +kernel
theorem dX8_logOne_4 : decode cX8_logOne 4 = .ok (.bipush 27, 2) := by decide +kernel
theorem dX8_logOne_6 : decode cX8_logOne 6 = .ok (.iload_n 1, 1) := by decide +kernel
theorem dX8_logOne_7 : decode cX8_logOne 7 = .ok (.iadd, 1) := by decide +kernel
theorem dX8_logOne_8 : decode cX8_logOne 8 = .ok (.iaload, 1) := by decide +kernel
theorem dX8_logOne_9 : decode cX8_logOne 9 = .ok (.sipush 8192, 3) := by decide +kernel
theorem dX8_logOne_12 : decode cX8_logOne 12 = .ok (.idiv, 1) := by decide +kernel
theorem dX8_logOne_13 : decode cX8_logOne 13 = .ok (.ireturn, 1) := by decide +kernel
theorem dX8_logOther_0 : decode cX8_logOther 0 = .ok (.aload_n 0, 1) := by decide +kernel
theorem dX8_logOther_1 : decode cX8_logOther 1 = .ok (.getfield 16, 3) := by decide +kernel
theorem dX8_logOther_4 : decode cX8_logOther 4 = .ok (.bipush 27, 2) := by decide +kernel
theorem dX8_logOther_6 : decode cX8_logOther 6 = .ok (.iload_n 1, 1) := by decide +kernel
theorem dX8_logOther_7 : decode cX8_logOther 7 = .ok (.iadd, 1) := by decide +kernel
theorem dX8_logOther_8 : decode cX8_logOther 8 = .ok (.iaload, 1) := by decide +kernel
theorem dX8_logOther_9 : decode cX8_logOther 9 = .ok (.sipush 1024, 3) := by decide +kernel
theorem dX8_logOther_12 : decode cX8_logOther 12 = .ok (.idiv, 1) := by decide +kernel
theorem dX8_logOther_13 : decode cX8_logOther 13 = .ok (.bipush 8, 2) := by decide +kernel
theorem dX8_logOther_15 : decode cX8_logOther 15 = .ok (.irem, 1) := by decide +kernel
theorem dX8_logOther_16 : decode cX8_logOther 16 = .ok (.ireturn, 1) := by decide +kernel
theorem dX8_logCard_0 : decode cX8_logCard 0 = .ok (.iload_n 2, 1) := by decide +kernel
theorem dX8_logCard_1 : decode cX8_logCard 1 = .ok (.ifCond .eq 21, 3) := by decide +kernel
theorem dX8_logCard_4 : decode cX8_logCard 4 = .ok (.aload_n 0, 1) := by decide +kernel
theorem dX8_logCard_5 : decode cX8_logCard 5 = .ok (.getfield 16, 3) := by decide +kernel
theorem dX8_logCard_8 : decode cX8_logCard 8 = .ok (.bipush 27, 2) := by decide +kernel
theorem dX8_logCard_10 : decode cX8_logCard 10 = .ok (.iload_n 1, 1) := by decide +kernel
theorem dX8_logCard_11 : decode cX8_logCard 11 = .ok (.iadd, 1) := by decide +kernel
theorem dX8_logCard_12 : decode cX8_logCard 12 = .ok (.iaload, 1) := by decide +kernel
theorem dX8_logCard_13 : decode cX8_logCard 13 = .ok (.bipush 64, 2) := by decide +kernel
theorem dX8_logCard_15 : decode cX8_logCard 15 = .ok (.idiv, 1) := by decide +kernel
theorem dX8_logCard_16 : decode cX8_logCard 16 = .ok (.bipush 16, 2) := by decide +kernel
theorem dX8_logCard_18 : decode cX8_logCard 18 = .ok (.irem, 1) := by decide +kernel
theorem dX8_logCard_19 : decode cX8_logCard 19 = .ok (.goto 17, 3) := by decide +kernel
theorem dX8_logCard_22 : decode cX8_logCard 22 = .ok (.aload_n 0, 1) := by decide +kernel
theorem dX8_logCard_23 : decode cX8_logCard 23 = .ok (.getfield 16, 3) := by decide +kernel
theorem dX8_logCard_26 : decode cX8_logCard 26 = .ok (.bipush 27, 2) := by decide +kernel
theorem dX8_logCard_28 : decode cX8_logCard 28 = .ok (.iload_n 1, 1) := by decide +kernel
theorem dX8_logCard_29 : decode cX8_logCard 29 = .ok (.iadd, 1) := by decide +kernel
theorem dX8_logCard_30 : decode cX8_logCard 30 = .ok (.iaload, 1) := by decide +kernel
theorem dX8_logCard_31 : decode cX8_logCard 31 = .ok (.iconst 4, 1) := by decide +kernel
theorem dX8_logCard_32 : decode cX8_logCard 32 = .ok (.idiv, 1) := by decide +kernel
theorem dX8_logCard_33 : decode cX8_logCard 33 = .ok (.bipush 16, 2) := by decide +kernel
theorem dX8_logCard_35 : decode cX8_logCard 35 = .ok (.irem, 1) := by decide +kernel
theorem dX8_logCard_36 : decode cX8_logCard 36 = .ok (.iconst 1, 1) := by decide +kernel
theorem dX8_logCard_37 : decode cX8_logCard 37 = .ok (.isub, 1) := by decide +kernel
theorem dX8_logCard_38 : decode cX8_logCard 38 = .ok (.ireturn, 1) := by decide +kernel
theorem dX8_logWon_0 : decode cX8_logWon 0 = .ok (.aload_n 0, 1) := by decide +kernel
theorem dX8_logWon_1 : decode cX8_logWon 1 = .ok (.getfield 16, 3) := by decide +kernel
theorem dX8_logWon_4 : decode cX8_logWon 4 = .ok (.bipush 27, 2) := by decide +kernel
theorem dX8_logWon_6 : decode cX8_logWon 6 = .ok (.iload_n 1, 1) := by decide +kernel
theorem dX8_logWon_7 : decode cX8_logWon 7 = .ok (.iadd, 1) := by decide +kernel
theorem dX8_logWon_8 : decode cX8_logWon 8 = .ok (.iaload, 1) := by decide +kernel
theorem dX8_logWon_9 : decode cX8_logWon 9 = .ok (.iconst 4, 1) := by decide +kernel
theorem dX8_logWon_10 : decode cX8_logWon 10 = .ok (.irem, 1) := by decide +kernel
theorem dX8_logWon_11 : decode cX8_logWon 11 = .ok (.ireturn, 1) := by decide +kernel
theorem dX8_isHeld_0 : decode cX8_isHeld 0 = .ok (.iconst 1, 1) := by decide +kernel
theorem dX8_isHeld_1 : decode cX8_isHeld 1 = .ok (.istore_n 2, 1) := by decide +kernel
theorem dX8_isHeld_2 : decode cX8_isHeld 2 = .ok (.iconst 0, 1) := by decide +kernel
theorem dX8_isHeld_3 : decode cX8_isHeld 3 = .ok (.istore_n 3, 1) := by decide +kernel
theorem dX8_isHeld_4 : decode cX8_isHeld 4 = .ok (.iload_n 3, 1) := by decide +kernel
theorem dX8_isHeld_5 : decode cX8_isHeld 5 = .ok (.aload_n 0, 1) := by decide +kernel
theorem dX8_isHeld_6 : decode cX8_isHeld 6 = .ok (.getfield 16, 3) := by decide +kernel
theorem dX8_isHeld_9 : decode cX8_isHeld 9 = .ok (.bipush 26, 2) := by decide +kernel
theorem dX8_isHeld_11 : decode cX8_isHeld 11 = .ok (.iaload, 1) := by decide +kernel
theorem dX8_isHeld_12 : decode cX8_isHeld 12 = .ok (.if_icmp .ge 67, 3) := by decide +kernel
theorem dX8_isHeld_15 : decode cX8_isHeld 15 = .ok (.iload_n 2, 1) := by decide +kernel
theorem dX8_isHeld_16 : decode cX8_isHeld 16 = .ok (.ifCond .eq 63, 3) := by decide +kernel
theorem dX8_isHeld_19 : decode cX8_isHeld 19 = .ok (.aload_n 0, 1) := by decide +kernel
theorem dX8_isHeld_20 : decode cX8_isHeld 20 = .ok (.iload_n 3, 1) := by decide +kernel
theorem dX8_isHeld_21 : decode cX8_isHeld 21 = .ok (.iconst 1, 1) := by decide +kernel
theorem dX8_isHeld_22 : decode cX8_isHeld 22 = .ok (.invokevirtual 187, 3) := by decide +kernel
theorem dX8_isHeld_25 : decode cX8_isHeld 25 = .ok (.istore 4, 2) := by decide +kernel
theorem dX8_isHeld_27 : decode cX8_isHeld 27 = .ok (.aload_n 0, 1) := by decide +kernel
theorem dX8_isHeld_28 : decode cX8_isHeld 28 = .ok (.iload_n 3, 1) := by decide +kernel
theorem dX8_isHeld_29 : decode cX8_isHeld 29 = .ok (.iconst 0, 1) := by decide +kernel
theorem dX8_isHeld_30 : decode cX8_isHeld 30 = .ok (.invokevirtual 187, 3) := by decide +kernel
theorem dX8_isHeld_33 : decode cX8_isHeld 33 = .ok (.istore 5, 2) := by decide +kernel
theorem dX8_isHeld_35 : decode cX8_isHeld 35 = .ok (.iload 4, 2) := by decide +kernel
theorem dX8_isHeld_37 : decode cX8_isHeld 37 = .ok (.ifCond .lt 30, 3) := by decide +kernel
theorem dX8_isHeld_40 : decode cX8_isHeld 40 = .ok (.iload 5, 2) := by decide +kernel
theorem dX8_isHeld_42 : decode cX8_isHeld 42 = .ok (.ifCond .lt 25, 3) := by decide +kernel
theorem dX8_isHeld_45 : decode cX8_isHeld 45 = .ok (.aload_n 0, 1) := by decide +kernel
theorem dX8_isHeld_46 : decode cX8_isHeld 46 = .ok (.iload 4, 2) := by decide +kernel
theorem dX8_isHeld_48 : decode cX8_isHeld 48 = .ok (.iload 5, 2) := by decide +kernel
theorem dX8_isHeld_50 : decode cX8_isHeld 50 = .ok (.iload_n 1, 1) := by decide +kernel
theorem dX8_isHeld_51 : decode cX8_isHeld 51 = .ok (.iconst 2, 1) := by decide +kernel
theorem dX8_isHeld_52 : decode cX8_isHeld 52 = .ok (.idiv, 1) := by decide +kernel
theorem dX8_isHeld_53 : decode cX8_isHeld 53 = .ok (.iload_n 1, 1) := by decide +kernel
theorem dX8_isHeld_54 : decode cX8_isHeld 54 = .ok (.iconst 2, 1) := by decide +kernel
theorem dX8_isHeld_55 : decode cX8_isHeld 55 = .ok (.irem, 1) := by decide +kernel
theorem dX8_isHeld_56 : decode cX8_isHeld 56 = .ok (.invokevirtual 170, 3) := by decide +kernel
theorem dX8_isHeld_59 : decode cX8_isHeld 59 = .ok (.aload_n 0, 1) := by decide +kernel
theorem dX8_isHeld_60 : decode cX8_isHeld 60 = .ok (.iload_n 3, 1) := by decide +kernel
theorem dX8_isHeld_61 : decode cX8_isHeld 61 = .ok (.invokevirtual 191, 3) := by decide +kernel
theorem dX8_isHeld_64 : decode cX8_isHeld 64 = .ok (.if_icmp .ne 7, 3) := by decide +kernel
theorem dX8_isHeld_67 : decode cX8_isHeld 67 = .ok (.iconst 1, 1) := by decide +kernel
theorem dX8_isHeld_68 : decode cX8_isHeld 68 = .ok (.goto 4, 3) := by decide +kernel
theorem dX8_isHeld_71 : decode cX8_isHeld 71 = .ok (.iconst 0, 1) := by decide +kernel
theorem dX8_isHeld_72 : decode cX8_isHeld 72 = .ok (.istore_n 2, 1) := by decide +kernel
theorem dX8_isHeld_73 : decode cX8_isHeld 73 = .ok (.iinc 3 1, 3) := by decide +kernel
theorem dX8_isHeld_76 : decode cX8_isHeld 76 = .ok (.goto (-72), 3) := by decide +kernel
theorem dX8_isHeld_79 : decode cX8_isHeld 79 = .ok (.iload_n 2, 1) := by decide +kernel
theorem dX8_isHeld_80 : decode cX8_isHeld 80 = .ok (.ireturn, 1) := by decide +kernel
theorem dX8_heldRules_0 : decode cX8_heldRules 0 = .ok (.iconst 0, 1) := by decide +kernel
theorem dX8_heldRules_1 : decode cX8_heldRules 1 = .ok (.istore_n 1, 1) := by decide +kernel
theorem dX8_heldRules_2 : decode cX8_heldRules 2 = .ok (.iconst 0, 1) := by decide +kernel
theorem dX8_heldRules_3 : decode cX8_heldRules 3 = .ok (.istore_n 2, 1) := by decide +kernel
theorem dX8_heldRules_4 : decode cX8_heldRules 4 = .ok (.iload_n 2, 1) := by decide +kernel
theorem dX8_heldRules_5 : decode cX8_heldRules 5 = .ok (.bipush 10, 2) := by decide +kernel
theorem dX8_heldRules_7 : decode cX8_heldRules 7 = .ok (.if_icmp .ge 27, 3) := by decide +kernel
theorem dX8_heldRules_10 : decode cX8_heldRules 10 = .ok (.iload_n 1, 1) := by decide +kernel
theorem dX8_heldRules_11 : decode cX8_heldRules 11 = .ok (.aload_n 0, 1) := by decide +kernel
theorem dX8_heldRules_12 : decode cX8_heldRules 12 = .ok (.iload_n 2, 1) := by decide +kernel
theorem dX8_heldRules_13 : decode cX8_heldRules 13 = .ok (.invokevirtual 194, 3) := by decide +kernel
theorem dX8_heldRules_16 : decode cX8_heldRules 16 = .ok (.ifCond .eq 9, 3) := by decide +kernel
theorem dX8_heldRules_19 : decode cX8_heldRules 19 = .ok (.iconst 1, 1) := by decide +kernel
theorem dX8_heldRules_20 : decode cX8_heldRules 20 = .ok (.iload_n 2, 1) := by decide +kernel
theorem dX8_heldRules_21 : decode cX8_heldRules 21 = .ok (.ishl, 1) := by decide +kernel
theorem dX8_heldRules_22 : decode cX8_heldRules 22 = .ok (.goto 4, 3) := by decide +kernel
theorem dX8_heldRules_25 : decode cX8_heldRules 25 = .ok (.iconst 0, 1) := by decide +kernel
theorem dX8_heldRules_26 : decode cX8_heldRules 26 = .ok (.ior, 1) := by decide +kernel
theorem dX8_heldRules_27 : decode cX8_heldRules 27 = .ok (.istore_n 1, 1) := by decide +kernel
theorem dX8_heldRules_28 : decode cX8_heldRules 28 = .ok (.iinc 2 1, 3) := by decide +kernel
theorem dX8_heldRules_31 : decode cX8_heldRules 31 = .ok (.goto (-27), 3) := by decide +kernel
theorem dX8_heldRules_34 : decode cX8_heldRules 34 = .ok (.iload_n 1, 1) := by decide +kernel
theorem dX8_heldRules_35 : decode cX8_heldRules 35 = .ok (.ireturn, 1) := by decide +kernel
theorem dX8_whoAreCards_0 : decode cX8_whoAreCards 0 = .ok (.iconst 0, 1) := by decide +kernel
theorem dX8_whoAreCards_1 : decode cX8_whoAreCards 1 = .ok (.istore_n 1, 1) := by decide +kernel
theorem dX8_whoAreCards_2 : decode cX8_whoAreCards 2 = .ok (.iconst 0, 1) := by decide +kernel
theorem dX8_whoAreCards_3 : decode cX8_whoAreCards 3 = .ok (.istore_n 2, 1) := by decide +kernel
theorem dX8_whoAreCards_4 : decode cX8_whoAreCards 4 = .ok (.iload_n 2, 1) := by decide +kernel
theorem dX8_whoAreCards_5 : decode cX8_whoAreCards 5 = .ok (.aload_n 0, 1) := by decide +kernel
theorem dX8_whoAreCards_6 : decode cX8_whoAreCards 6 = .ok (.getfield 75, 3) := by decide +kernel
theorem dX8_whoAreCards_9 : decode cX8_whoAreCards 9 = .ok (.if_icmp .ge 31, 3) := by decide +kernel
theorem dX8_whoAreCards_12 : decode cX8_whoAreCards 12 = .ok (.iload_n 1, 1) := by decide +kernel
theorem dX8_whoAreCards_13 : decode cX8_whoAreCards 13 = .ok (.aload_n 0, 1) := by decide +kernel
theorem dX8_whoAreCards_14 : decode cX8_whoAreCards 14 = .ok (.getfield 16, 3) := by decide +kernel
theorem dX8_whoAreCards_17 : decode cX8_whoAreCards 17 = .ok (.bipush 13, 2) := by decide +kernel
theorem dX8_whoAreCards_19 : decode cX8_whoAreCards 19 = .ok (.iload_n 2, 1) := by decide +kernel
theorem dX8_whoAreCards_20 : decode cX8_whoAreCards 20 = .ok (.iadd, 1) := by decide +kernel
theorem dX8_whoAreCards_21 : decode cX8_whoAreCards 21 = .ok (.iaload, 1) := by decide +kernel
theorem dX8_whoAreCards_22 : decode cX8_whoAreCards 22 = .ok (.ifCond .lt 9, 3) := by decide +kernel
theorem dX8_whoAreCards_25 : decode cX8_whoAreCards 25 = .ok (.iconst 1, 1) := by decide +kernel
theorem dX8_whoAreCards_26 : decode cX8_whoAreCards 26 = .ok (.iload_n 2, 1) := by decide +kernel
theorem dX8_whoAreCards_27 : decode cX8_whoAreCards 27 = .ok (.ishl, 1) := by decide +kernel
theorem dX8_whoAreCards_28 : decode cX8_whoAreCards 28 = .ok (.goto 4, 3) := by decide +kernel
theorem dX8_whoAreCards_31 : decode cX8_whoAreCards 31 = .ok (.iconst 0, 1) := by decide +kernel
theorem dX8_whoAreCards_32 : decode cX8_whoAreCards 32 = .ok (.ior, 1) := by decide +kernel
theorem dX8_whoAreCards_33 : decode cX8_whoAreCards 33 = .ok (.istore_n 1, 1) := by decide +kernel
theorem dX8_whoAreCards_34 : decode cX8_whoAreCards 34 = .ok (.iinc 2 1, 3) := by decide +kernel
theorem dX8_whoAreCards_37 : decode cX8_whoAreCards 37 = .ok (.goto (-33), 3) := by decide +kernel
theorem dX8_whoAreCards_40 : decode cX8_whoAreCards 40 = .ok (.iload_n 1, 1) := by decide +kernel
theorem dX8_whoAreCards_41 : decode cX8_whoAreCards 41 = .ok (.ireturn, 1) := by decide +kernel
theorem dX8_told_0 : decode cX8_told 0 = .ok (.iload_n 1, 1) := by decide +kernel
theorem dX8_told_1 : decode cX8_told 1 = .ok (.tableswitch 170 0 14 #[75, 91, 96, 101, 106, 111, 116, 124, 132, 137, 142, 150, 155, 160, 165], 75) := by decide +kernel
theorem dX8_told_76 : decode cX8_told 76 = .ok (.aload_n 0, 1) := by decide +kernel
theorem dX8_told_77 : decode cX8_told 77 = .ok (.getfield 143, 3) := by decide +kernel
theorem dX8_told_80 : decode cX8_told 80 = .ok (.ifCond .eq 10, 3) := by decide +kernel
theorem dX8_told_83 : decode cX8_told 83 = .ok (.aload_n 0, 1) := by decide +kernel
theorem dX8_told_84 : decode cX8_told 84 = .ok (.getfield 146, 3) := by decide +kernel
theorem dX8_told_87 : decode cX8_told 87 = .ok (.goto 4, 3) := by decide +kernel
theorem dX8_told_90 : decode cX8_told 90 = .ok (.iconst (-1), 1) := by decide +kernel
theorem dX8_told_91 : decode cX8_told 91 = .ok (.ireturn, 1) := by decide +kernel
theorem dX8_told_92 : decode cX8_told 92 = .ok (.aload_n 0, 1) := by decide +kernel
theorem dX8_told_93 : decode cX8_told 93 = .ok (.getfield 149, 3) := by decide +kernel
theorem dX8_told_96 : decode cX8_told 96 = .ok (.ireturn, 1) := by decide +kernel
theorem dX8_told_97 : decode cX8_told 97 = .ok (.aload_n 0, 1) := by decide +kernel
theorem dX8_told_98 : decode cX8_told 98 = .ok (.getfield 152, 3) := by decide +kernel
theorem dX8_told_101 : decode cX8_told 101 = .ok (.ireturn, 1) := by decide +kernel
theorem dX8_told_102 : decode cX8_told 102 = .ok (.aload_n 0, 1) := by decide +kernel
theorem dX8_told_103 : decode cX8_told 103 = .ok (.getfield 86, 3) := by decide +kernel
theorem dX8_told_106 : decode cX8_told 106 = .ok (.ireturn, 1) := by decide +kernel
theorem dX8_told_107 : decode cX8_told 107 = .ok (.aload_n 0, 1) := by decide +kernel
theorem dX8_told_108 : decode cX8_told 108 = .ok (.getfield 75, 3) := by decide +kernel
theorem dX8_told_111 : decode cX8_told 111 = .ok (.ireturn, 1) := by decide +kernel
theorem dX8_told_112 : decode cX8_told 112 = .ok (.aload_n 0, 1) := by decide +kernel
theorem dX8_told_113 : decode cX8_told 113 = .ok (.getfield 92, 3) := by decide +kernel
theorem dX8_told_116 : decode cX8_told 116 = .ok (.ireturn, 1) := by decide +kernel
theorem dX8_told_117 : decode cX8_told 117 = .ok (.aload_n 0, 1) := by decide +kernel
theorem dX8_told_118 : decode cX8_told 118 = .ok (.getfield 16, 3) := by decide +kernel
theorem dX8_told_121 : decode cX8_told 121 = .ok (.bipush 12, 2) := by decide +kernel
theorem dX8_told_123 : decode cX8_told 123 = .ok (.iaload, 1) := by decide +kernel
theorem dX8_told_124 : decode cX8_told 124 = .ok (.ireturn, 1) := by decide +kernel
theorem dX8_told_125 : decode cX8_told 125 = .ok (.aload_n 0, 1) := by decide +kernel
theorem dX8_told_126 : decode cX8_told 126 = .ok (.getfield 16, 3) := by decide +kernel
theorem dX8_told_129 : decode cX8_told 129 = .ok (.bipush 25, 2) := by decide +kernel
theorem dX8_told_131 : decode cX8_told 131 = .ok (.iaload, 1) := by decide +kernel
theorem dX8_told_132 : decode cX8_told 132 = .ok (.ireturn, 1) := by decide +kernel
theorem dX8_told_133 : decode cX8_told 133 = .ok (.aload_n 0, 1) := by decide +kernel
theorem dX8_told_134 : decode cX8_told 134 = .ok (.invokevirtual 197, 3) := by decide +kernel
theorem dX8_told_137 : decode cX8_told 137 = .ok (.ireturn, 1) := by decide +kernel
theorem dX8_told_138 : decode cX8_told 138 = .ok (.aload_n 0, 1) := by decide +kernel
theorem dX8_told_139 : decode cX8_told 139 = .ok (.invokevirtual 200, 3) := by decide +kernel
theorem dX8_told_142 : decode cX8_told 142 = .ok (.ireturn, 1) := by decide +kernel
theorem dX8_told_143 : decode cX8_told 143 = .ok (.aload_n 0, 1) := by decide +kernel
theorem dX8_told_144 : decode cX8_told 144 = .ok (.getfield 16, 3) := by decide +kernel
theorem dX8_told_147 : decode cX8_told 147 = .ok (.bipush 26, 2) := by decide +kernel
theorem dX8_told_149 : decode cX8_told 149 = .ok (.iaload, 1) := by decide +kernel
theorem dX8_told_150 : decode cX8_told 150 = .ok (.ireturn, 1) := by decide +kernel
theorem dX8_told_151 : decode cX8_told 151 = .ok (.aload_n 0, 1) := by decide +kernel
theorem dX8_told_152 : decode cX8_told 152 = .ok (.invokevirtual 203, 3) := by decide +kernel
theorem dX8_told_155 : decode cX8_told 155 = .ok (.ireturn, 1) := by decide +kernel
theorem dX8_told_156 : decode cX8_told 156 = .ok (.aload_n 0, 1) := by decide +kernel
theorem dX8_told_157 : decode cX8_told 157 = .ok (.getfield 161, 3) := by decide +kernel
theorem dX8_told_160 : decode cX8_told 160 = .ok (.ireturn, 1) := by decide +kernel
theorem dX8_told_161 : decode cX8_told 161 = .ok (.aload_n 0, 1) := by decide +kernel
theorem dX8_told_162 : decode cX8_told 162 = .ok (.getfield 164, 3) := by decide +kernel
theorem dX8_told_165 : decode cX8_told 165 = .ok (.ireturn, 1) := by decide +kernel
theorem dX8_told_166 : decode cX8_told 166 = .ok (.aload_n 0, 1) := by decide +kernel
theorem dX8_told_167 : decode cX8_told 167 = .ok (.getfield 167, 3) := by decide +kernel
theorem dX8_told_170 : decode cX8_told 170 = .ok (.ireturn, 1) := by decide +kernel
theorem dX8_told_171 : decode cX8_told 171 = .ok (.ldc 91, 2) := by decide +kernel
theorem dX8_told_173 : decode cX8_told 173 = .ok (.ireturn, 1) := by decide +kernel
theorem dX8_placeOf_0 : decode cX8_placeOf 0 = .ok (.iconst 0, 1) := by decide +kernel
theorem dX8_placeOf_1 : decode cX8_placeOf 1 = .ok (.istore_n 2, 1) := by decide +kernel
theorem dX8_placeOf_2 : decode cX8_placeOf 2 = .ok (.iload_n 2, 1) := by decide +kernel
theorem dX8_placeOf_3 : decode cX8_placeOf 3 = .ok (.aload_n 0, 1) := by decide +kernel
theorem dX8_placeOf_4 : decode cX8_placeOf 4 = .ok (.getfield 16, 3) := by decide +kernel
theorem dX8_placeOf_7 : decode cX8_placeOf 7 = .ok (.bipush 12, 2) := by decide +kernel
theorem dX8_placeOf_9 : decode cX8_placeOf 9 = .ok (.iaload, 1) := by decide +kernel
theorem dX8_placeOf_10 : decode cX8_placeOf 10 = .ok (.if_icmp .ge 23, 3) := by decide +kernel
theorem dX8_placeOf_13 : decode cX8_placeOf 13 = .ok (.aload_n 0, 1) := by decide +kernel
theorem dX8_placeOf_14 : decode cX8_placeOf 14 = .ok (.getfield 16, 3) := by decide +kernel
theorem dX8_placeOf_17 : decode cX8_placeOf 17 = .ok (.iconst 0, 1) := by decide +kernel
theorem dX8_placeOf_18 : decode cX8_placeOf 18 = .ok (.iload_n 2, 1) := by decide +kernel
theorem dX8_placeOf_19 : decode cX8_placeOf 19 = .ok (.iadd, 1) := by decide +kernel
theorem dX8_placeOf_20 : decode cX8_placeOf 20 = .ok (.iaload, 1) := by decide +kernel
theorem dX8_placeOf_21 : decode cX8_placeOf 21 = .ok (.iload_n 1, 1) := by decide +kernel
theorem dX8_placeOf_22 : decode cX8_placeOf 22 = .ok (.if_icmp .ne 5, 3) := by decide +kernel
theorem dX8_placeOf_25 : decode cX8_placeOf 25 = .ok (.iload_n 2, 1) := by decide +kernel
theorem dX8_placeOf_26 : decode cX8_placeOf 26 = .ok (.ireturn, 1) := by decide +kernel
theorem dX8_placeOf_27 : decode cX8_placeOf 27 = .ok (.iinc 2 1, 3) := by decide +kernel
theorem dX8_placeOf_30 : decode cX8_placeOf 30 = .ok (.goto (-28), 3) := by decide +kernel
theorem dX8_placeOf_33 : decode cX8_placeOf 33 = .ok (.iconst (-1), 1) := by decide +kernel
theorem dX8_placeOf_34 : decode cX8_placeOf 34 = .ok (.ireturn, 1) := by decide +kernel
theorem dX8_whoIs_0 : decode cX8_whoIs 0 = .ok (.iconst (-1), 1) := by decide +kernel
theorem dX8_whoIs_1 : decode cX8_whoIs 1 = .ok (.istore_n 2, 1) := by decide +kernel
theorem dX8_whoIs_2 : decode cX8_whoIs 2 = .ok (.iconst 0, 1) := by decide +kernel
theorem dX8_whoIs_3 : decode cX8_whoIs 3 = .ok (.istore_n 3, 1) := by decide +kernel
theorem dX8_whoIs_4 : decode cX8_whoIs 4 = .ok (.iload_n 3, 1) := by decide +kernel
theorem dX8_whoIs_5 : decode cX8_whoIs 5 = .ok (.aload_n 0, 1) := by decide +kernel
theorem dX8_whoIs_6 : decode cX8_whoIs 6 = .ok (.getfield 75, 3) := by decide +kernel
theorem dX8_whoIs_9 : decode cX8_whoIs 9 = .ok (.if_icmp .ge 28, 3) := by decide +kernel
theorem dX8_whoIs_12 : decode cX8_whoIs 12 = .ok (.aload_n 0, 1) := by decide +kernel
theorem dX8_whoIs_13 : decode cX8_whoIs 13 = .ok (.getfield 16, 3) := by decide +kernel
theorem dX8_whoIs_16 : decode cX8_whoIs 16 = .ok (.bipush 13, 2) := by decide +kernel
theorem dX8_whoIs_18 : decode cX8_whoIs 18 = .ok (.iload_n 3, 1) := by decide +kernel
theorem dX8_whoIs_19 : decode cX8_whoIs 19 = .ok (.iadd, 1) := by decide +kernel
theorem dX8_whoIs_20 : decode cX8_whoIs 20 = .ok (.iaload, 1) := by decide +kernel
theorem dX8_whoIs_21 : decode cX8_whoIs 21 = .ok (.iload_n 1, 1) := by decide +kernel
theorem dX8_whoIs_22 : decode cX8_whoIs 22 = .ok (.if_icmp .ne 7, 3) := by decide +kernel
theorem dX8_whoIs_25 : decode cX8_whoIs 25 = .ok (.iload_n 3, 1) := by decide +kernel
theorem dX8_whoIs_26 : decode cX8_whoIs 26 = .ok (.goto 4, 3) := by decide +kernel
theorem dX8_whoIs_29 : decode cX8_whoIs 29 = .ok (.iload_n 2, 1) := by decide +kernel
theorem dX8_whoIs_30 : decode cX8_whoIs 30 = .ok (.istore_n 2, 1) := by decide +kernel
theorem dX8_whoIs_31 : decode cX8_whoIs 31 = .ok (.iinc 3 1, 3) := by decide +kernel
theorem dX8_whoIs_34 : decode cX8_whoIs 34 = .ok (.goto (-30), 3) := by decide +kernel
theorem dX8_whoIs_37 : decode cX8_whoIs 37 = .ok (.iload_n 2, 1) := by decide +kernel
theorem dX8_whoIs_38 : decode cX8_whoIs 38 = .ok (.ireturn, 1) := by decide +kernel
theorem dX8_card_0 : decode cX8_card 0 = .ok (.aload_n 0, 1) := by decide +kernel
theorem dX8_card_1 : decode cX8_card 1 = .ok (.iload_n 1, 1) := by decide +kernel
theorem dX8_card_2 : decode cX8_card 2 = .ok (.invokevirtual 206, 3) := by decide +kernel
theorem dX8_card_5 : decode cX8_card 5 = .ok (.ifCond .ne 6, 3) := by decide +kernel
theorem dX8_card_8 : decode cX8_card 8 = .ok (.ldc 209, 2) := by decide +kernel
theorem dX8_card_10 : decode cX8_card 10 = .ok (.ireturn, 1) := by decide +kernel
theorem dX8_card_11 : decode cX8_card 11 = .ok (.iload_n 2, 1) := by decide +kernel
theorem dX8_card_12 : decode cX8_card 12 = .ok (.tableswitch 74 0 4 #[36, 43, 50, 56, 62], 36) := by decide +kernel
theorem dX8_card_48 : decode cX8_card 48 = .ok (.aload_n 0, 1) := by decide +kernel
theorem dX8_card_49 : decode cX8_card 49 = .ok (.getfield 7, 3) := by decide +kernel
theorem dX8_card_52 : decode cX8_card 52 = .ok (.iload_n 1, 1) := by decide +kernel
theorem dX8_card_53 : decode cX8_card 53 = .ok (.iaload, 1) := by decide +kernel
theorem dX8_card_54 : decode cX8_card 54 = .ok (.ireturn, 1) := by decide +kernel
theorem dX8_card_55 : decode cX8_card 55 = .ok (.aload_n 0, 1) := by decide +kernel
theorem dX8_card_56 : decode cX8_card 56 = .ok (.getfield 13, 3) := by decide +kernel
theorem dX8_card_59 : decode cX8_card 59 = .ok (.iload_n 1, 1) := by decide +kernel
theorem dX8_card_60 : decode cX8_card 60 = .ok (.iaload, 1) := by decide +kernel
theorem dX8_card_61 : decode cX8_card 61 = .ok (.ireturn, 1) := by decide +kernel
theorem dX8_card_62 : decode cX8_card 62 = .ok (.aload_n 0, 1) := by decide +kernel
theorem dX8_card_63 : decode cX8_card 63 = .ok (.iload_n 1, 1) := by decide +kernel
theorem dX8_card_64 : decode cX8_card 64 = .ok (.invokevirtual 210, 3) := by decide +kernel
theorem dX8_card_67 : decode cX8_card 67 = .ok (.ireturn, 1) := by decide +kernel
theorem dX8_card_68 : decode cX8_card 68 = .ok (.aload_n 0, 1) := by decide +kernel
theorem dX8_card_69 : decode cX8_card 69 = .ok (.iload_n 1, 1) := by decide +kernel
theorem dX8_card_70 : decode cX8_card 70 = .ok (.invokevirtual 213, 3) := by decide +kernel
theorem dX8_card_73 : decode cX8_card 73 = .ok (.ireturn, 1) := by decide +kernel
theorem dX8_card_74 : decode cX8_card 74 = .ok (.aload_n 0, 1) := by decide +kernel
theorem dX8_card_75 : decode cX8_card 75 = .ok (.getfield 16, 3) := by decide +kernel
theorem dX8_card_78 : decode cX8_card 78 = .ok (.bipush 25, 2) := by decide +kernel
theorem dX8_card_80 : decode cX8_card 80 = .ok (.iaload, 1) := by decide +kernel
theorem dX8_card_81 : decode cX8_card 81 = .ok (.iload_n 1, 1) := by decide +kernel
theorem dX8_card_82 : decode cX8_card 82 = .ok (.ishr, 1) := by decide +kernel
theorem dX8_card_83 : decode cX8_card 83 = .ok (.iconst 1, 1) := by decide +kernel
theorem dX8_card_84 : decode cX8_card 84 = .ok (.iand, 1) := by decide +kernel
theorem dX8_card_85 : decode cX8_card 85 = .ok (.ireturn, 1) := by decide +kernel
theorem dX8_card_86 : decode cX8_card 86 = .ok (.ldc 91, 2) := by decide +kernel
theorem dX8_card_88 : decode cX8_card 88 = .ok (.ireturn, 1) := by decide +kernel
theorem dX8_pack_0 : decode cX8_pack 0 = .ok (.iload_n 1, 1) := by decide +kernel
theorem dX8_pack_1 : decode cX8_pack 1 = .ok (.i2l, 1) := by decide +kernel
theorem dX8_pack_2 : decode cX8_pack 2 = .ok (.lconst 0, 1) := by decide +kernel
theorem dX8_pack_3 : decode cX8_pack 3 = .ok (.aload_n 0, 1) := by decide +kernel
theorem dX8_pack_4 : decode cX8_pack 4 = .ok (.getfield 16, 3) := by decide +kernel
theorem dX8_pack_7 : decode cX8_pack 7 = .ok (.bipush 12, 2) := by decide +kernel
theorem dX8_pack_9 : decode cX8_pack 9 = .ok (.iaload, 1) := by decide +kernel
theorem dX8_pack_10 : decode cX8_pack 10 = .ok (.iconst 1, 1) := by decide +kernel
theorem dX8_pack_11 : decode cX8_pack 11 = .ok (.isub, 1) := by decide +kernel
theorem dX8_pack_12 : decode cX8_pack 12 = .ok (.i2l, 1) := by decide +kernel
theorem dX8_pack_13 : decode cX8_pack 13 = .ok (.invokestatic 78, 3) := by decide +kernel
theorem dX8_pack_16 : decode cX8_pack 16 = .ok (.ifCond .eq 14, 3) := by decide +kernel
theorem dX8_pack_19 : decode cX8_pack 19 = .ok (.aload_n 0, 1) := by decide +kernel
theorem dX8_pack_20 : decode cX8_pack 20 = .ok (.getfield 16, 3) := by decide +kernel
theorem dX8_pack_23 : decode cX8_pack 23 = .ok (.iconst 0, 1) := by decide +kernel
theorem dX8_pack_24 : decode cX8_pack 24 = .ok (.iload_n 1, 1) := by decide +kernel
theorem dX8_pack_25 : decode cX8_pack 25 = .ok (.iadd, 1) := by decide +kernel
theorem dX8_pack_26 : decode cX8_pack 26 = .ok (.iaload, 1) := by decide +kernel
theorem dX8_pack_27 : decode cX8_pack 27 = .ok (.goto 4, 3) := by decide +kernel
theorem dX8_pack_30 : decode cX8_pack 30 = .ok (.iconst (-1), 1) := by decide +kernel
theorem dX8_pack_31 : decode cX8_pack 31 = .ok (.ireturn, 1) := by decide +kernel
theorem dX8_person_0 : decode cX8_person 0 = .ok (.aload_n 0, 1) := by decide +kernel
theorem dX8_person_1 : decode cX8_person 1 = .ok (.iload_n 1, 1) := by decide +kernel
theorem dX8_person_2 : decode cX8_person 2 = .ok (.invokevirtual 82, 3) := by decide +kernel
theorem dX8_person_5 : decode cX8_person 5 = .ok (.ifCond .ne 6, 3) := by decide +kernel
theorem dX8_person_8 : decode cX8_person 8 = .ok (.ldc 209, 2) := by decide +kernel
theorem dX8_person_10 : decode cX8_person 10 = .ok (.ireturn, 1) := by decide +kernel
theorem dX8_person_11 : decode cX8_person 11 = .ok (.iload_n 2, 1) := by decide +kernel
theorem dX8_person_12 : decode cX8_person 12 = .ok (.tableswitch 54 0 2 #[28, 38, 48], 28) := by decide +kernel
theorem dX8_person_40 : decode cX8_person 40 = .ok (.aload_n 0, 1) := by decide +kernel
theorem dX8_person_41 : decode cX8_person 41 = .ok (.getfield 16, 3) := by decide +kernel
theorem dX8_person_44 : decode cX8_person 44 = .ok (.bipush 13, 2) := by decide +kernel
theorem dX8_person_46 : decode cX8_person 46 = .ok (.iload_n 1, 1) := by decide +kernel
theorem dX8_person_47 : decode cX8_person 47 = .ok (.iadd, 1) := by decide +kernel
theorem dX8_person_48 : decode cX8_person 48 = .ok (.iaload, 1) := by decide +kernel
theorem dX8_person_49 : decode cX8_person 49 = .ok (.ireturn, 1) := by decide +kernel
theorem dX8_person_50 : decode cX8_person 50 = .ok (.aload_n 0, 1) := by decide +kernel
theorem dX8_person_51 : decode cX8_person 51 = .ok (.getfield 16, 3) := by decide +kernel
theorem dX8_person_54 : decode cX8_person 54 = .ok (.bipush 19, 2) := by decide +kernel
theorem dX8_person_56 : decode cX8_person 56 = .ok (.iload_n 1, 1) := by decide +kernel
theorem dX8_person_57 : decode cX8_person 57 = .ok (.iadd, 1) := by decide +kernel
theorem dX8_person_58 : decode cX8_person 58 = .ok (.iaload, 1) := by decide +kernel
theorem dX8_person_59 : decode cX8_person 59 = .ok (.ireturn, 1) := by decide +kernel
theorem dX8_person_60 : decode cX8_person 60 = .ok (.aload_n 0, 1) := by decide +kernel
theorem dX8_person_61 : decode cX8_person 61 = .ok (.iload_n 1, 1) := by decide +kernel
theorem dX8_person_62 : decode cX8_person 62 = .ok (.invokevirtual 180, 3) := by decide +kernel
theorem dX8_person_65 : decode cX8_person 65 = .ok (.ireturn, 1) := by decide +kernel
theorem dX8_person_66 : decode cX8_person 66 = .ok (.ldc 91, 2) := by decide +kernel
theorem dX8_person_68 : decode cX8_person 68 = .ok (.ireturn, 1) := by decide +kernel
theorem dX8_logged_0 : decode cX8_logged 0 = .ok (.iload_n 2, 1) := by decide +kernel
theorem dX8_logged_1 : decode cX8_logged 1 = .ok (.i2l, 1) := by decide +kernel
theorem dX8_logged_2 : decode cX8_logged 2 = .ok (.lconst 0, 1) := by decide +kernel
theorem dX8_logged_3 : decode cX8_logged 3 = .ok (.ldc2_w 216, 3) := by decide +kernel
theorem dX8_logged_6 : decode cX8_logged 6 = .ok (.invokestatic 78, 3) := by decide +kernel
theorem dX8_logged_9 : decode cX8_logged 9 = .ok (.ifCond .ne 6, 3) := by decide +kernel
theorem dX8_logged_12 : decode cX8_logged 12 = .ok (.ldc 91, 2) := by decide +kernel
theorem dX8_logged_14 : decode cX8_logged 14 = .ok (.ireturn, 1) := by decide +kernel
theorem dX8_logged_15 : decode cX8_logged 15 = .ok (.iload_n 1, 1) := by decide +kernel
theorem dX8_logged_16 : decode cX8_logged 16 = .ok (.i2l, 1) := by decide +kernel
theorem dX8_logged_17 : decode cX8_logged 17 = .ok (.lconst 0, 1) := by decide +kernel
theorem dX8_logged_18 : decode cX8_logged 18 = .ok (.aload_n 0, 1) := by decide +kernel
theorem dX8_logged_19 : decode cX8_logged 19 = .ok (.getfield 16, 3) := by decide +kernel
theorem dX8_logged_22 : decode cX8_logged 22 = .ok (.bipush 26, 2) := by decide +kernel
theorem dX8_logged_24 : decode cX8_logged 24 = .ok (.iaload, 1) := by decide +kernel
theorem dX8_logged_25 : decode cX8_logged 25 = .ok (.iconst 1, 1) := by decide +kernel
theorem dX8_logged_26 : decode cX8_logged 26 = .ok (.isub, 1) := by decide +kernel
theorem dX8_logged_27 : decode cX8_logged 27 = .ok (.i2l, 1) := by decide +kernel
theorem dX8_logged_28 : decode cX8_logged 28 = .ok (.invokestatic 78, 3) := by decide +kernel
theorem dX8_logged_31 : decode cX8_logged 31 = .ok (.ifCond .ne 5, 3) := by decide +kernel
theorem dX8_logged_34 : decode cX8_logged 34 = .ok (.iconst (-1), 1) := by decide +kernel
theorem dX8_logged_35 : decode cX8_logged 35 = .ok (.ireturn, 1) := by decide +kernel
theorem dX8_logged_36 : decode cX8_logged 36 = .ok (.aload_n 0, 1) := by decide +kernel
theorem dX8_logged_37 : decode cX8_logged 37 = .ok (.getfield 16, 3) := by decide +kernel
theorem dX8_logged_40 : decode cX8_logged 40 = .ok (.bipush 26, 2) := by decide +kernel
theorem dX8_logged_42 : decode cX8_logged 42 = .ok (.iaload, 1) := by decide +kernel
theorem dX8_logged_43 : decode cX8_logged 43 = .ok (.iconst 1, 1) := by decide +kernel
theorem dX8_logged_44 : decode cX8_logged 44 = .ok (.isub, 1) := by decide +kernel
theorem dX8_logged_45 : decode cX8_logged 45 = .ok (.iload_n 1, 1) := by decide +kernel
theorem dX8_logged_46 : decode cX8_logged 46 = .ok (.isub, 1) := by decide +kernel
theorem dX8_logged_47 : decode cX8_logged 47 = .ok (.istore_n 3, 1) := by decide +kernel
theorem dX8_logged_48 : decode cX8_logged 48 = .ok (.aload_n 0, 1) := by decide +kernel
theorem dX8_logged_49 : decode cX8_logged 49 = .ok (.iload_n 3, 1) := by decide +kernel
theorem dX8_logged_50 : decode cX8_logged 50 = .ok (.invokevirtual 191, 3) := by decide +kernel
theorem dX8_logged_53 : decode cX8_logged 53 = .ok (.istore 4, 2) := by decide +kernel
theorem dX8_logged_55 : decode cX8_logged 55 = .ok (.iload_n 2, 1) := by decide +kernel
theorem dX8_logged_56 : decode cX8_logged 56 = .ok (.ifCond .ne 11, 3) := by decide +kernel
theorem dX8_logged_59 : decode cX8_logged 59 = .ok (.aload_n 0, 1) := by decide +kernel
theorem dX8_logged_60 : decode cX8_logged 60 = .ok (.iload_n 3, 1) := by decide +kernel
theorem dX8_logged_61 : decode cX8_logged 61 = .ok (.invokevirtual 218, 3) := by decide +kernel
theorem dX8_logged_64 : decode cX8_logged 64 = .ok (.goto 44, 3) := by decide +kernel
theorem dX8_logged_67 : decode cX8_logged 67 = .ok (.iload_n 2, 1) := by decide +kernel
theorem dX8_logged_68 : decode cX8_logged 68 = .ok (.iconst 1, 1) := by decide +kernel
theorem dX8_logged_69 : decode cX8_logged 69 = .ok (.if_icmp .ne 11, 3) := by decide +kernel
theorem dX8_logged_72 : decode cX8_logged 72 = .ok (.aload_n 0, 1) := by decide +kernel
theorem dX8_logged_73 : decode cX8_logged 73 = .ok (.iload_n 3, 1) := by decide +kernel
theorem dX8_logged_74 : decode cX8_logged 74 = .ok (.invokevirtual 221, 3) := by decide +kernel
theorem dX8_logged_77 : decode cX8_logged 77 = .ok (.goto 31, 3) := by decide +kernel
theorem dX8_logged_80 : decode cX8_logged 80 = .ok (.iload 4, 2) := by decide +kernel
theorem dX8_logged_82 : decode cX8_logged 82 = .ok (.ifCond .ne 11, 3) := by decide +kernel
theorem dX8_logged_85 : decode cX8_logged 85 = .ok (.aload_n 0, 1) := by decide +kernel
theorem dX8_logged_86 : decode cX8_logged 86 = .ok (.iload_n 3, 1) := by decide +kernel
theorem dX8_logged_87 : decode cX8_logged 87 = .ok (.invokevirtual 218, 3) := by decide +kernel
theorem dX8_logged_90 : decode cX8_logged 90 = .ok (.goto 18, 3) := by decide +kernel
theorem dX8_logged_93 : decode cX8_logged 93 = .ok (.iload 4, 2) := by decide +kernel
theorem dX8_logged_95 : decode cX8_logged 95 = .ok (.iconst 1, 1) := by decide +kernel
theorem dX8_logged_96 : decode cX8_logged 96 = .ok (.if_icmp .ne 11, 3) := by decide +kernel
theorem dX8_logged_99 : decode cX8_logged 99 = .ok (.aload_n 0, 1) := by decide +kernel
theorem dX8_logged_100 : decode cX8_logged 100 = .ok (.iload_n 3, 1) := by decide +kernel
theorem dX8_logged_101 : decode cX8_logged 101 = .ok (.invokevirtual 221, 3) := by decide +kernel
theorem dX8_logged_104 : decode cX8_logged 104 = .ok (.goto 4, 3) := by decide +kernel
theorem dX8_logged_107 : decode cX8_logged 107 = .ok (.iconst (-1), 1) := by decide +kernel
theorem dX8_logged_108 : decode cX8_logged 108 = .ok (.ireturn, 1) := by decide +kernel
theorem dX8_remember_0 : decode cX8_remember 0 = .ok (.aload_n 0, 1) := by decide +kernel
theorem dX8_remember_1 : decode cX8_remember 1 = .ok (.getfield 167, 3) := by decide +kernel
theorem dX8_remember_4 : decode cX8_remember 4 = .ok (.bipush 16, 2) := by decide +kernel
theorem dX8_remember_6 : decode cX8_remember 6 = .ok (.if_icmp .ne 44, 3) := by decide +kernel
theorem dX8_remember_9 : decode cX8_remember 9 = .ok (.bipush 51, 2) := by decide +kernel
theorem dX8_remember_11 : decode cX8_remember 11 = .ok (.istore_n 1, 1) := by decide +kernel
theorem dX8_remember_12 : decode cX8_remember 12 = .ok (.iload_n 1, 1) := by decide +kernel
theorem dX8_remember_13 : decode cX8_remember 13 = .ok (.sipush 816, 3) := by decide +kernel
theorem dX8_remember_16 : decode cX8_remember 16 = .ok (.if_icmp .ge 24, 3) := by decide +kernel
theorem dX8_remember_19 : decode cX8_remember 19 = .ok (.aload_n 0, 1) := by decide +kernel
theorem dX8_remember_20 : decode cX8_remember 20 = .ok (.getfield 35, 3) := by decide +kernel
theorem dX8_remember_23 : decode cX8_remember 23 = .ok (.iload_n 1, 1) := by decide +kernel
theorem dX8_remember_24 : decode cX8_remember 24 = .ok (.bipush 51, 2) := by decide +kernel
theorem dX8_remember_26 : decode cX8_remember 26 = .ok (.isub, 1) := by decide +kernel
theorem dX8_remember_27 : decode cX8_remember 27 = .ok (.aload_n 0, 1) := by decide +kernel
theorem dX8_remember_28 : decode cX8_remember 28 = .ok (.getfield 35, 3) := by decide +kernel
theorem dX8_remember_31 : decode cX8_remember 31 = .ok (.iload_n 1, 1) := by decide +kernel
theorem dX8_remember_32 : decode cX8_remember 32 = .ok (.iaload, 1) := by decide +kernel
theorem dX8_remember_33 : decode cX8_remember 33 = .ok (.iastore, 1) := by decide +kernel
theorem dX8_remember_34 : decode cX8_remember 34 = .ok (.iinc 1 1, 3) := by decide +kernel
theorem dX8_remember_37 : decode cX8_remember 37 = .ok (.goto (-25), 3) := by decide +kernel
theorem dX8_remember_40 : decode cX8_remember 40 = .ok (.aload_n 0, 1) := by decide +kernel
theorem dX8_remember_41 : decode cX8_remember 41 = .ok (.dup, 1) := by decide +kernel
theorem dX8_remember_42 : decode cX8_remember 42 = .ok (.getfield 167, 3) := by decide +kernel
theorem dX8_remember_45 : decode cX8_remember 45 = .ok (.iconst 1, 1) := by decide +kernel
theorem dX8_remember_46 : decode cX8_remember 46 = .ok (.isub, 1) := by decide +kernel
theorem dX8_remember_47 : decode cX8_remember 47 = .ok (.putfield 167, 3) := by decide +kernel
theorem dX8_remember_50 : decode cX8_remember 50 = .ok (.iconst 0, 1) := by decide +kernel
theorem dX8_remember_51 : decode cX8_remember 51 = .ok (.istore_n 1, 1) := by decide +kernel
theorem dX8_remember_52 : decode cX8_remember 52 = .ok (.iload_n 1, 1) := by decide +kernel
theorem dX8_remember_53 : decode cX8_remember 53 = .ok (.bipush 51, 2) := by decide +kernel
theorem dX8_remember_55 : decode cX8_remember 55 = .ok (.if_icmp .ge 29, 3) := by decide +kernel
theorem dX8_remember_58 : decode cX8_remember 58 = .ok (.aload_n 0, 1) := by decide +kernel
theorem dX8_remember_59 : decode cX8_remember 59 = .ok (.getfield 35, 3) := by decide +kernel
theorem dX8_remember_62 : decode cX8_remember 62 = .ok (.bipush 51, 2) := by decide +kernel
theorem dX8_remember_64 : decode cX8_remember 64 = .ok (.aload_n 0, 1) := by decide +kernel
theorem dX8_remember_65 : decode cX8_remember 65 = .ok (.getfield 167, 3) := by decide +kernel
theorem dX8_remember_68 : decode cX8_remember 68 = .ok (.imul, 1) := by decide +kernel
theorem dX8_remember_69 : decode cX8_remember 69 = .ok (.iload_n 1, 1) := by decide +kernel
theorem dX8_remember_70 : decode cX8_remember 70 = .ok (.iadd, 1) := by decide +kernel
theorem dX8_remember_71 : decode cX8_remember 71 = .ok (.aload_n 0, 1) := by decide +kernel
theorem dX8_remember_72 : decode cX8_remember 72 = .ok (.getfield 16, 3) := by decide +kernel
theorem dX8_remember_75 : decode cX8_remember 75 = .ok (.iload_n 1, 1) := by decide +kernel
theorem dX8_remember_76 : decode cX8_remember 76 = .ok (.iaload, 1) := by decide +kernel
theorem dX8_remember_77 : decode cX8_remember 77 = .ok (.iastore, 1) := by decide +kernel
theorem dX8_remember_78 : decode cX8_remember 78 = .ok (.iinc 1 1, 3) := by decide +kernel
theorem dX8_remember_81 : decode cX8_remember 81 = .ok (.goto (-29), 3) := by decide +kernel
theorem dX8_remember_84 : decode cX8_remember 84 = .ok (.aload_n 0, 1) := by decide +kernel
theorem dX8_remember_85 : decode cX8_remember 85 = .ok (.dup, 1) := by decide +kernel
theorem dX8_remember_86 : decode cX8_remember 86 = .ok (.getfield 167, 3) := by decide +kernel
theorem dX8_remember_89 : decode cX8_remember 89 = .ok (.iconst 1, 1) := by decide +kernel
theorem dX8_remember_90 : decode cX8_remember 90 = .ok (.iadd, 1) := by decide +kernel
theorem dX8_remember_91 : decode cX8_remember 91 = .ok (.putfield 167, 3) := by decide +kernel
theorem dX8_remember_94 : decode cX8_remember 94 = .ok (.return_, 1) := by decide +kernel
theorem dX8_layBelow_0 : decode cX8_layBelow 0 = .ok (.aload_n 0, 1) := by decide +kernel
theorem dX8_layBelow_1 : decode cX8_layBelow 1 = .ok (.getfield 16, 3) := by decide +kernel
theorem dX8_layBelow_4 : decode cX8_layBelow 4 = .ok (.iconst 0, 1) := by decide +kernel
theorem dX8_layBelow_5 : decode cX8_layBelow 5 = .ok (.aload_n 0, 1) := by decide +kernel
theorem dX8_layBelow_6 : decode cX8_layBelow 6 = .ok (.getfield 16, 3) := by decide +kernel
theorem dX8_layBelow_9 : decode cX8_layBelow 9 = .ok (.bipush 12, 2) := by decide +kernel
theorem dX8_layBelow_11 : decode cX8_layBelow 11 = .ok (.iaload, 1) := by decide +kernel
theorem dX8_layBelow_12 : decode cX8_layBelow 12 = .ok (.iadd, 1) := by decide +kernel
theorem dX8_layBelow_13 : decode cX8_layBelow 13 = .ok (.iload_n 1, 1) := by decide +kernel
theorem dX8_layBelow_14 : decode cX8_layBelow 14 = .ok (.iastore, 1) := by decide +kernel
theorem dX8_layBelow_15 : decode cX8_layBelow 15 = .ok (.aload_n 0, 1) := by decide +kernel
theorem dX8_layBelow_16 : decode cX8_layBelow 16 = .ok (.getfield 16, 3) := by decide +kernel
theorem dX8_layBelow_19 : decode cX8_layBelow 19 = .ok (.bipush 12, 2) := by decide +kernel
theorem dX8_layBelow_21 : decode cX8_layBelow 21 = .ok (.dup2, 1) := by decide +kernel
theorem dX8_layBelow_22 : decode cX8_layBelow 22 = .ok (.iaload, 1) := by decide +kernel
theorem dX8_layBelow_23 : decode cX8_layBelow 23 = .ok (.iconst 1, 1) := by decide +kernel
theorem dX8_layBelow_24 : decode cX8_layBelow 24 = .ok (.iadd, 1) := by decide +kernel
theorem dX8_layBelow_25 : decode cX8_layBelow 25 = .ok (.iastore, 1) := by decide +kernel
theorem dX8_layBelow_26 : decode cX8_layBelow 26 = .ok (.return_, 1) := by decide +kernel
theorem dX8_takeAt_0 : decode cX8_takeAt 0 = .ok (.aload_n 0, 1) := by decide +kernel
theorem dX8_takeAt_1 : decode cX8_takeAt 1 = .ok (.getfield 16, 3) := by decide +kernel
theorem dX8_takeAt_4 : decode cX8_takeAt 4 = .ok (.iconst 0, 1) := by decide +kernel
theorem dX8_takeAt_5 : decode cX8_takeAt 5 = .ok (.iload_n 1, 1) := by decide +kernel
theorem dX8_takeAt_6 : decode cX8_takeAt 6 = .ok (.iadd, 1) := by decide +kernel
theorem dX8_takeAt_7 : decode cX8_takeAt 7 = .ok (.iaload, 1) := by decide +kernel
theorem dX8_takeAt_8 : decode cX8_takeAt 8 = .ok (.istore_n 2, 1) := by decide +kernel
theorem dX8_takeAt_9 : decode cX8_takeAt 9 = .ok (.aload_n 0, 1) := by decide +kernel
theorem dX8_takeAt_10 : decode cX8_takeAt 10 = .ok (.getfield 16, 3) := by decide +kernel
theorem dX8_takeAt_13 : decode cX8_takeAt 13 = .ok (.bipush 12, 2) := by decide +kernel
theorem dX8_takeAt_15 : decode cX8_takeAt 15 = .ok (.dup2, 1) := by decide +kernel
theorem dX8_takeAt_16 : decode cX8_takeAt 16 = .ok (.iaload, 1) := by decide +kernel
theorem dX8_takeAt_17 : decode cX8_takeAt 17 = .ok (.iconst 1, 1) := by decide +kernel
theorem dX8_takeAt_18 : decode cX8_takeAt 18 = .ok (.isub, 1) := by decide +kernel
theorem dX8_takeAt_19 : decode cX8_takeAt 19 = .ok (.iastore, 1) := by decide +kernel
theorem dX8_takeAt_20 : decode cX8_takeAt 20 = .ok (.iload_n 1, 1) := by decide +kernel
theorem dX8_takeAt_21 : decode cX8_takeAt 21 = .ok (.istore_n 3, 1) := by decide +kernel
theorem dX8_takeAt_22 : decode cX8_takeAt 22 = .ok (.iload_n 3, 1) := by decide +kernel
theorem dX8_takeAt_23 : decode cX8_takeAt 23 = .ok (.aload_n 0, 1) := by decide +kernel
theorem dX8_takeAt_24 : decode cX8_takeAt 24 = .ok (.getfield 16, 3) := by decide +kernel
theorem dX8_takeAt_27 : decode cX8_takeAt 27 = .ok (.bipush 12, 2) := by decide +kernel
theorem dX8_takeAt_29 : decode cX8_takeAt 29 = .ok (.iaload, 1) := by decide +kernel
theorem dX8_takeAt_30 : decode cX8_takeAt 30 = .ok (.if_icmp .ge 27, 3) := by decide +kernel
theorem dX8_takeAt_33 : decode cX8_takeAt 33 = .ok (.aload_n 0, 1) := by decide +kernel
theorem dX8_takeAt_34 : decode cX8_takeAt 34 = .ok (.getfield 16, 3) := by decide +kernel
theorem dX8_takeAt_37 : decode cX8_takeAt 37 = .ok (.iconst 0, 1) := by decide +kernel
theorem dX8_takeAt_38 : decode cX8_takeAt 38 = .ok (.iload_n 3, 1) := by decide +kernel
theorem dX8_takeAt_39 : decode cX8_takeAt 39 = .ok (.iadd, 1) := by decide +kernel
theorem dX8_takeAt_40 : decode cX8_takeAt 40 = .ok (.aload_n 0, 1) := by decide +kernel
theorem dX8_takeAt_41 : decode cX8_takeAt 41 = .ok (.getfield 16, 3) := by decide +kernel
theorem dX8_takeAt_44 : decode cX8_takeAt 44 = .ok (.iconst 0, 1) := by decide +kernel
theorem dX8_takeAt_45 : decode cX8_takeAt 45 = .ok (.iload_n 3, 1) := by decide +kernel
theorem dX8_takeAt_46 : decode cX8_takeAt 46 = .ok (.iadd, 1) := by decide +kernel
theorem dX8_takeAt_47 : decode cX8_takeAt 47 = .ok (.iconst 1, 1) := by decide +kernel
theorem dX8_takeAt_48 : decode cX8_takeAt 48 = .ok (.iadd, 1) := by decide +kernel
theorem dX8_takeAt_49 : decode cX8_takeAt 49 = .ok (.iaload, 1) := by decide +kernel
theorem dX8_takeAt_50 : decode cX8_takeAt 50 = .ok (.iastore, 1) := by decide +kernel
theorem dX8_takeAt_51 : decode cX8_takeAt 51 = .ok (.iinc 3 1, 3) := by decide +kernel
theorem dX8_takeAt_54 : decode cX8_takeAt 54 = .ok (.goto (-32), 3) := by decide +kernel
theorem dX8_takeAt_57 : decode cX8_takeAt 57 = .ok (.aload_n 0, 1) := by decide +kernel
theorem dX8_takeAt_58 : decode cX8_takeAt 58 = .ok (.getfield 16, 3) := by decide +kernel
theorem dX8_takeAt_61 : decode cX8_takeAt 61 = .ok (.iconst 0, 1) := by decide +kernel
theorem dX8_takeAt_62 : decode cX8_takeAt 62 = .ok (.aload_n 0, 1) := by decide +kernel
theorem dX8_takeAt_63 : decode cX8_takeAt 63 = .ok (.getfield 16, 3) := by decide +kernel
theorem dX8_takeAt_66 : decode cX8_takeAt 66 = .ok (.bipush 12, 2) := by decide +kernel
theorem dX8_takeAt_68 : decode cX8_takeAt 68 = .ok (.iaload, 1) := by decide +kernel
theorem dX8_takeAt_69 : decode cX8_takeAt 69 = .ok (.iadd, 1) := by decide +kernel
theorem dX8_takeAt_70 : decode cX8_takeAt 70 = .ok (.iconst 0, 1) := by decide +kernel
theorem dX8_takeAt_71 : decode cX8_takeAt 71 = .ok (.iastore, 1) := by decide +kernel
theorem dX8_takeAt_72 : decode cX8_takeAt 72 = .ok (.iload_n 2, 1) := by decide +kernel
theorem dX8_takeAt_73 : decode cX8_takeAt 73 = .ok (.ireturn, 1) := by decide +kernel
theorem dX8_canDraw_0 : decode cX8_canDraw 0 = .ok (.aload_n 0, 1) := by decide +kernel
theorem dX8_canDraw_1 : decode cX8_canDraw 1 = .ok (.getfield 16, 3) := by decide +kernel
theorem dX8_canDraw_4 : decode cX8_canDraw 4 = .ok (.bipush 13, 2) := by decide +kernel
theorem dX8_canDraw_6 : decode cX8_canDraw 6 = .ok (.iload_n 1, 1) := by decide +kernel
theorem dX8_canDraw_7 : decode cX8_canDraw 7 = .ok (.iadd, 1) := by decide +kernel
theorem dX8_canDraw_8 : decode cX8_canDraw 8 = .ok (.iaload, 1) := by decide +kernel
theorem dX8_canDraw_9 : decode cX8_canDraw 9 = .ok (.ifCond .ge 17, 3) := by decide +kernel
theorem dX8_canDraw_12 : decode cX8_canDraw 12 = .ok (.aload_n 0, 1) := by decide +kernel
theorem dX8_canDraw_13 : decode cX8_canDraw 13 = .ok (.getfield 16, 3) := by decide +kernel
theorem dX8_canDraw_16 : decode cX8_canDraw 16 = .ok (.bipush 12, 2) := by decide +kernel
theorem dX8_canDraw_18 : decode cX8_canDraw 18 = .ok (.iaload, 1) := by decide +kernel
theorem dX8_canDraw_19 : decode cX8_canDraw 19 = .ok (.ifCond .le 7, 3) := by decide +kernel
theorem dX8_canDraw_22 : decode cX8_canDraw 22 = .ok (.iconst 1, 1) := by decide +kernel
theorem dX8_canDraw_23 : decode cX8_canDraw 23 = .ok (.goto 4, 3) := by decide +kernel
theorem dX8_canDraw_26 : decode cX8_canDraw 26 = .ok (.iconst 0, 1) := by decide +kernel
theorem dX8_canDraw_27 : decode cX8_canDraw 27 = .ok (.ireturn, 1) := by decide +kernel
theorem dX8_backNow_0 : decode cX8_backNow 0 = .ok (.aload_n 0, 1) := by decide +kernel
theorem dX8_backNow_1 : decode cX8_backNow 1 = .ok (.aload_n 0, 1) := by decide +kernel
theorem dX8_backNow_2 : decode cX8_backNow 2 = .ok (.getfield 16, 3) := by decide +kernel
theorem dX8_backNow_5 : decode cX8_backNow 5 = .ok (.bipush 13, 2) := by decide +kernel
theorem dX8_backNow_7 : decode cX8_backNow 7 = .ok (.iload_n 1, 1) := by decide +kernel
theorem dX8_backNow_8 : decode cX8_backNow 8 = .ok (.iadd, 1) := by decide +kernel
theorem dX8_backNow_9 : decode cX8_backNow 9 = .ok (.iaload, 1) := by decide +kernel
theorem dX8_backNow_10 : decode cX8_backNow 10 = .ok (.invokevirtual 224, 3) := by decide +kernel
theorem dX8_backNow_13 : decode cX8_backNow 13 = .ok (.aload_n 0, 1) := by decide +kernel
theorem dX8_backNow_14 : decode cX8_backNow 14 = .ok (.getfield 16, 3) := by decide +kernel
theorem dX8_backNow_17 : decode cX8_backNow 17 = .ok (.bipush 13, 2) := by decide +kernel
theorem dX8_backNow_19 : decode cX8_backNow 19 = .ok (.iload_n 1, 1) := by decide +kernel
theorem dX8_backNow_20 : decode cX8_backNow 20 = .ok (.iadd, 1) := by decide +kernel
theorem dX8_backNow_21 : decode cX8_backNow 21 = .ok (.iconst (-1), 1) := by decide +kernel
theorem dX8_backNow_22 : decode cX8_backNow 22 = .ok (.iastore, 1) := by decide +kernel
theorem dX8_backNow_23 : decode cX8_backNow 23 = .ok (.return_, 1) := by decide +kernel
theorem dX8_drawOne_0 : decode cX8_drawOne 0 = .ok (.aload_n 0, 1) := by decide +kernel
theorem dX8_drawOne_1 : decode cX8_drawOne 1 = .ok (.iload_n 1, 1) := by decide +kernel
theorem dX8_drawOne_2 : decode cX8_drawOne 2 = .ok (.invokevirtual 82, 3) := by decide +kernel
theorem dX8_drawOne_5 : decode cX8_drawOne 5 = .ok (.ifCond .ne 6, 3) := by decide +kernel
theorem dX8_drawOne_8 : decode cX8_drawOne 8 = .ok (.ldc 209, 2) := by decide +kernel
theorem dX8_drawOne_10 : decode cX8_drawOne 10 = .ok (.ireturn, 1) := by decide +kernel
theorem dX8_drawOne_11 : decode cX8_drawOne 11 = .ok (.aload_n 0, 1) := by decide +kernel
theorem dX8_drawOne_12 : decode cX8_drawOne 12 = .ok (.iload_n 1, 1) := by decide +kernel
theorem dX8_drawOne_13 : decode cX8_drawOne 13 = .ok (.invokevirtual 228, 3) := by decide +kernel
theorem dX8_drawOne_16 : decode cX8_drawOne 16 = .ok (.ifCond .ne 6, 3) := by decide +kernel
theorem dX8_drawOne_19 : decode cX8_drawOne 19 = .ok (.ldc 231, 2) := by decide +kernel
theorem dX8_drawOne_21 : decode cX8_drawOne 21 = .ok (.ireturn, 1) := by decide +kernel
theorem dX8_drawOne_22 : decode cX8_drawOne 22 = .ok (.aload_n 0, 1) := by decide +kernel
theorem dX8_drawOne_23 : decode cX8_drawOne 23 = .ok (.invokevirtual 232, 3) := by decide +kernel
theorem dX8_drawOne_26 : decode cX8_drawOne 26 = .ok (.aload_n 0, 1) := by decide +kernel
theorem dX8_drawOne_27 : decode cX8_drawOne 27 = .ok (.getfield 16, 3) := by decide +kernel
theorem dX8_drawOne_30 : decode cX8_drawOne 30 = .ok (.bipush 13, 2) := by decide +kernel
theorem dX8_drawOne_32 : decode cX8_drawOne 32 = .ok (.iload_n 1, 1) := by decide +kernel
theorem dX8_drawOne_33 : decode cX8_drawOne 33 = .ok (.iadd, 1) := by decide +kernel
theorem dX8_drawOne_34 : decode cX8_drawOne 34 = .ok (.aload_n 0, 1) := by decide +kernel
theorem dX8_drawOne_35 : decode cX8_drawOne 35 = .ok (.iconst 0, 1) := by decide +kernel
theorem dX8_drawOne_36 : decode cX8_drawOne 36 = .ok (.invokevirtual 235, 3) := by decide +kernel
theorem dX8_drawOne_39 : decode cX8_drawOne 39 = .ok (.iastore, 1) := by decide +kernel
theorem dX8_drawOne_40 : decode cX8_drawOne 40 = .ok (.aload_n 0, 1) := by decide +kernel
theorem dX8_drawOne_41 : decode cX8_drawOne 41 = .ok (.getfield 16, 3) := by decide +kernel
theorem dX8_drawOne_44 : decode cX8_drawOne 44 = .ok (.bipush 13, 2) := by decide +kernel
theorem dX8_drawOne_46 : decode cX8_drawOne 46 = .ok (.iload_n 1, 1) := by decide +kernel
theorem dX8_drawOne_47 : decode cX8_drawOne 47 = .ok (.iadd, 1) := by decide +kernel
theorem dX8_drawOne_48 : decode cX8_drawOne 48 = .ok (.iaload, 1) := by decide +kernel
theorem dX8_drawOne_49 : decode cX8_drawOne 49 = .ok (.ireturn, 1) := by decide +kernel
theorem dX8_getBack_0 : decode cX8_getBack 0 = .ok (.aload_n 0, 1) := by decide +kernel
theorem dX8_getBack_1 : decode cX8_getBack 1 = .ok (.iload_n 1, 1) := by decide +kernel
theorem dX8_getBack_2 : decode cX8_getBack 2 = .ok (.invokevirtual 82, 3) := by decide +kernel
theorem dX8_getBack_5 : decode cX8_getBack 5 = .ok (.ifCond .ne 6, 3) := by decide +kernel
theorem dX8_getBack_8 : decode cX8_getBack 8 = .ok (.ldc 209, 2) := by decide +kernel
theorem dX8_getBack_10 : decode cX8_getBack 10 = .ok (.ireturn, 1) := by decide +kernel
theorem dX8_getBack_11 : decode cX8_getBack 11 = .ok (.aload_n 0, 1) := by decide +kernel
theorem dX8_getBack_12 : decode cX8_getBack 12 = .ok (.getfield 16, 3) := by decide +kernel
theorem dX8_getBack_15 : decode cX8_getBack 15 = .ok (.bipush 13, 2) := by decide +kernel
theorem dX8_getBack_17 : decode cX8_getBack 17 = .ok (.iload_n 1, 1) := by decide +kernel
theorem dX8_getBack_18 : decode cX8_getBack 18 = .ok (.iadd, 1) := by decide +kernel
theorem dX8_getBack_19 : decode cX8_getBack 19 = .ok (.iaload, 1) := by decide +kernel
theorem dX8_getBack_20 : decode cX8_getBack 20 = .ok (.ifCond .ge 6, 3) := by decide +kernel
theorem dX8_getBack_23 : decode cX8_getBack 23 = .ok (.ldc 231, 2) := by decide +kernel
theorem dX8_getBack_25 : decode cX8_getBack 25 = .ok (.ireturn, 1) := by decide +kernel
theorem dX8_getBack_26 : decode cX8_getBack 26 = .ok (.aload_n 0, 1) := by decide +kernel
theorem dX8_getBack_27 : decode cX8_getBack 27 = .ok (.invokevirtual 232, 3) := by decide +kernel
theorem dX8_getBack_30 : decode cX8_getBack 30 = .ok (.aload_n 0, 1) := by decide +kernel
theorem dX8_getBack_31 : decode cX8_getBack 31 = .ok (.getfield 16, 3) := by decide +kernel
theorem dX8_getBack_34 : decode cX8_getBack 34 = .ok (.bipush 13, 2) := by decide +kernel
theorem dX8_getBack_36 : decode cX8_getBack 36 = .ok (.iload_n 1, 1) := by decide +kernel
theorem dX8_getBack_37 : decode cX8_getBack 37 = .ok (.iadd, 1) := by decide +kernel
theorem dX8_getBack_38 : decode cX8_getBack 38 = .ok (.iaload, 1) := by decide +kernel
theorem dX8_getBack_39 : decode cX8_getBack 39 = .ok (.istore_n 2, 1) := by decide +kernel
theorem dX8_getBack_40 : decode cX8_getBack 40 = .ok (.aload_n 0, 1) := by decide +kernel
theorem dX8_getBack_41 : decode cX8_getBack 41 = .ok (.iload_n 1, 1) := by decide +kernel
theorem dX8_getBack_42 : decode cX8_getBack 42 = .ok (.invokevirtual 238, 3) := by decide +kernel
theorem dX8_getBack_45 : decode cX8_getBack 45 = .ok (.iload_n 2, 1) := by decide +kernel
theorem dX8_getBack_46 : decode cX8_getBack 46 = .ok (.ireturn, 1) := by decide +kernel
theorem dX8_meetNow_0 : decode cX8_meetNow 0 = .ok (.aload_n 0, 1) := by decide +kernel
theorem dX8_meetNow_1 : decode cX8_meetNow 1 = .ok (.aload_n 0, 1) := by decide +kernel
theorem dX8_meetNow_2 : decode cX8_meetNow 2 = .ok (.getfield 16, 3) := by decide +kernel
theorem dX8_meetNow_5 : decode cX8_meetNow 5 = .ok (.bipush 13, 2) := by decide +kernel
theorem dX8_meetNow_7 : decode cX8_meetNow 7 = .ok (.iload_n 1, 1) := by decide +kernel
theorem dX8_meetNow_8 : decode cX8_meetNow 8 = .ok (.iadd, 1) := by decide +kernel
theorem dX8_meetNow_9 : decode cX8_meetNow 9 = .ok (.iaload, 1) := by decide +kernel
theorem dX8_meetNow_10 : decode cX8_meetNow 10 = .ok (.aload_n 0, 1) := by decide +kernel
theorem dX8_meetNow_11 : decode cX8_meetNow 11 = .ok (.getfield 16, 3) := by decide +kernel
theorem dX8_meetNow_14 : decode cX8_meetNow 14 = .ok (.bipush 13, 2) := by decide +kernel
theorem dX8_meetNow_16 : decode cX8_meetNow 16 = .ok (.iload_n 2, 1) := by decide +kernel
theorem dX8_meetNow_17 : decode cX8_meetNow 17 = .ok (.iadd, 1) := by decide +kernel
theorem dX8_meetNow_18 : decode cX8_meetNow 18 = .ok (.iaload, 1) := by decide +kernel
theorem dX8_meetNow_19 : decode cX8_meetNow 19 = .ok (.invokevirtual 177, 3) := by decide +kernel
theorem dX8_meetNow_22 : decode cX8_meetNow 22 = .ok (.istore_n 3, 1) := by decide +kernel
theorem dX8_meetNow_23 : decode cX8_meetNow 23 = .ok (.aload_n 0, 1) := by decide +kernel
theorem dX8_meetNow_24 : decode cX8_meetNow 24 = .ok (.getfield 16, 3) := by decide +kernel
theorem dX8_meetNow_27 : decode cX8_meetNow 27 = .ok (.bipush 26, 2) := by decide +kernel
theorem dX8_meetNow_29 : decode cX8_meetNow 29 = .ok (.iaload, 1) := by decide +kernel
theorem dX8_meetNow_30 : decode cX8_meetNow 30 = .ok (.bipush 24, 2) := by decide +kernel
theorem dX8_meetNow_32 : decode cX8_meetNow 32 = .ok (.if_icmp .ne 52, 3) := by decide +kernel
theorem dX8_meetNow_35 : decode cX8_meetNow 35 = .ok (.iconst 1, 1) := by decide +kernel
theorem dX8_meetNow_36 : decode cX8_meetNow 36 = .ok (.istore 4, 2) := by decide +kernel
theorem dX8_meetNow_38 : decode cX8_meetNow 38 = .ok (.iload 4, 2) := by decide +kernel
theorem dX8_meetNow_40 : decode cX8_meetNow 40 = .ok (.bipush 24, 2) := by decide +kernel
theorem dX8_meetNow_42 : decode cX8_meetNow 42 = .ok (.if_icmp .ge 31, 3) := by decide +kernel
theorem dX8_meetNow_45 : decode cX8_meetNow 45 = .ok (.aload_n 0, 1) := by decide +kernel
theorem dX8_meetNow_46 : decode cX8_meetNow 46 = .ok (.getfield 16, 3) := by decide +kernel
theorem dX8_meetNow_49 : decode cX8_meetNow 49 = .ok (.bipush 27, 2) := by decide +kernel
theorem dX8_meetNow_51 : decode cX8_meetNow 51 = .ok (.iload 4, 2) := by decide +kernel
theorem dX8_meetNow_53 : decode cX8_meetNow 53 = .ok (.iadd, 1) := by decide +kernel
theorem dX8_meetNow_54 : decode cX8_meetNow 54 = .ok (.iconst 1, 1) := by decide +kernel
theorem dX8_meetNow_55 : decode cX8_meetNow 55 = .ok (.isub, 1) := by decide +kernel
theorem dX8_meetNow_56 : decode cX8_meetNow 56 = .ok (.aload_n 0, 1) := by decide +kernel
theorem dX8_meetNow_57 : decode cX8_meetNow 57 = .ok (.getfield 16, 3) := by decide +kernel
theorem dX8_meetNow_60 : decode cX8_meetNow 60 = .ok (.bipush 27, 2) := by decide +kernel
theorem dX8_meetNow_62 : decode cX8_meetNow 62 = .ok (.iload 4, 2) := by decide +kernel
theorem dX8_meetNow_64 : decode cX8_meetNow 64 = .ok (.iadd, 1) := by decide +kernel
theorem dX8_meetNow_65 : decode cX8_meetNow 65 = .ok (.iaload, 1) := by decide +kernel
theorem dX8_meetNow_66 : decode cX8_meetNow 66 = .ok (.iastore, 1) := by decide +kernel
theorem dX8_meetNow_67 : decode cX8_meetNow 67 = .ok (.iinc 4 1, 3) := by decide +kernel
theorem dX8_meetNow_70 : decode cX8_meetNow 70 = .ok (.goto (-32), 3) := by decide +kernel
theorem dX8_meetNow_73 : decode cX8_meetNow 73 = .ok (.aload_n 0, 1) := by decide +kernel
theorem dX8_meetNow_74 : decode cX8_meetNow 74 = .ok (.getfield 16, 3) := by decide +kernel
theorem dX8_meetNow_77 : decode cX8_meetNow 77 = .ok (.bipush 26, 2) := by decide +kernel
theorem dX8_meetNow_79 : decode cX8_meetNow 79 = .ok (.dup2, 1) := by decide +kernel
theorem dX8_meetNow_80 : decode cX8_meetNow 80 = .ok (.iaload, 1) := by decide +kernel
theorem dX8_meetNow_81 : decode cX8_meetNow 81 = .ok (.iconst 1, 1) := by decide +kernel
theorem dX8_meetNow_82 : decode cX8_meetNow 82 = .ok (.isub, 1) := by decide +kernel
theorem dX8_meetNow_83 : decode cX8_meetNow 83 = .ok (.iastore, 1) := by decide +kernel
theorem dX8_meetNow_84 : decode cX8_meetNow 84 = .ok (.aload_n 0, 1) := by decide +kernel
theorem dX8_meetNow_85 : decode cX8_meetNow 85 = .ok (.getfield 16, 3) := by decide +kernel
theorem dX8_meetNow_88 : decode cX8_meetNow 88 = .ok (.bipush 27, 2) := by decide +kernel
theorem dX8_meetNow_90 : decode cX8_meetNow 90 = .ok (.aload_n 0, 1) := by decide +kernel
theorem dX8_meetNow_91 : decode cX8_meetNow 91 = .ok (.getfield 16, 3) := by decide +kernel
theorem dX8_meetNow_94 : decode cX8_meetNow 94 = .ok (.bipush 26, 2) := by decide +kernel
theorem dX8_meetNow_96 : decode cX8_meetNow 96 = .ok (.iaload, 1) := by decide +kernel
theorem dX8_meetNow_97 : decode cX8_meetNow 97 = .ok (.iadd, 1) := by decide +kernel
theorem dX8_meetNow_98 : decode cX8_meetNow 98 = .ok (.iload_n 3, 1) := by decide +kernel
theorem dX8_meetNow_99 : decode cX8_meetNow 99 = .ok (.iconst 4, 1) := by decide +kernel
theorem dX8_meetNow_100 : decode cX8_meetNow 100 = .ok (.aload_n 0, 1) := by decide +kernel
theorem dX8_meetNow_101 : decode cX8_meetNow 101 = .ok (.getfield 16, 3) := by decide +kernel
theorem dX8_meetNow_104 : decode cX8_meetNow 104 = .ok (.bipush 13, 2) := by decide +kernel
theorem dX8_meetNow_106 : decode cX8_meetNow 106 = .ok (.iload_n 2, 1) := by decide +kernel
theorem dX8_meetNow_107 : decode cX8_meetNow 107 = .ok (.iadd, 1) := by decide +kernel
theorem dX8_meetNow_108 : decode cX8_meetNow 108 = .ok (.iaload, 1) := by decide +kernel
theorem dX8_meetNow_109 : decode cX8_meetNow 109 = .ok (.iconst 1, 1) := by decide +kernel
theorem dX8_meetNow_110 : decode cX8_meetNow 110 = .ok (.iadd, 1) := by decide +kernel
theorem dX8_meetNow_111 : decode cX8_meetNow 111 = .ok (.imul, 1) := by decide +kernel
theorem dX8_meetNow_112 : decode cX8_meetNow 112 = .ok (.iadd, 1) := by decide +kernel
theorem dX8_meetNow_113 : decode cX8_meetNow 113 = .ok (.bipush 64, 2) := by decide +kernel
theorem dX8_meetNow_115 : decode cX8_meetNow 115 = .ok (.aload_n 0, 1) := by decide +kernel
theorem dX8_meetNow_116 : decode cX8_meetNow 116 = .ok (.getfield 16, 3) := by decide +kernel
theorem dX8_meetNow_119 : decode cX8_meetNow 119 = .ok (.bipush 13, 2) := by decide +kernel
theorem dX8_meetNow_121 : decode cX8_meetNow 121 = .ok (.iload_n 1, 1) := by decide +kernel
theorem dX8_meetNow_122 : decode cX8_meetNow 122 = .ok (.iadd, 1) := by decide +kernel
theorem dX8_meetNow_123 : decode cX8_meetNow 123 = .ok (.iaload, 1) := by decide +kernel
theorem dX8_meetNow_124 : decode cX8_meetNow 124 = .ok (.iconst 1, 1) := by decide +kernel
theorem dX8_meetNow_125 : decode cX8_meetNow 125 = .ok (.iadd, 1) := by decide +kernel
theorem dX8_meetNow_126 : decode cX8_meetNow 126 = .ok (.imul, 1) := by decide +kernel
theorem dX8_meetNow_127 : decode cX8_meetNow 127 = .ok (.iadd, 1) := by decide +kernel
theorem dX8_meetNow_128 : decode cX8_meetNow 128 = .ok (.sipush 1024, 3) := by decide +kernel
theorem dX8_meetNow_131 : decode cX8_meetNow 131 = .ok (.iload_n 2, 1) := by decide +kernel
theorem dX8_meetNow_132 : decode cX8_meetNow 132 = .ok (.imul, 1) := by decide +kernel
theorem dX8_meetNow_133 : decode cX8_meetNow 133 = .ok (.iadd, 1) := by decide +kernel
theorem dX8_meetNow_134 : decode cX8_meetNow 134 = .ok (.sipush 8192, 3) := by decide +kernel
theorem dX8_meetNow_137 : decode cX8_meetNow 137 = .ok (.iload_n 1, 1) := by decide +kernel
theorem dX8_meetNow_138 : decode cX8_meetNow 138 = .ok (.imul, 1) := by decide +kernel
theorem dX8_meetNow_139 : decode cX8_meetNow 139 = .ok (.iadd, 1) := by decide +kernel
theorem dX8_meetNow_140 : decode cX8_meetNow 140 = .ok (.iastore, 1) := by decide +kernel
theorem dX8_meetNow_141 : decode cX8_meetNow 141 = .ok (.aload_n 0, 1) := by decide +kernel
theorem dX8_meetNow_142 : decode cX8_meetNow 142 = .ok (.getfield 16, 3) := by decide +kernel
theorem dX8_meetNow_145 : decode cX8_meetNow 145 = .ok (.bipush 26, 2) := by decide +kernel
theorem dX8_meetNow_147 : decode cX8_meetNow 147 = .ok (.dup2, 1) := by decide +kernel
theorem dX8_meetNow_148 : decode cX8_meetNow 148 = .ok (.iaload, 1) := by decide +kernel
theorem dX8_meetNow_149 : decode cX8_meetNow 149 = .ok (.iconst 1, 1) := by decide +kernel
theorem dX8_meetNow_150 : decode cX8_meetNow 150 = .ok (.iadd, 1) := by decide +kernel
theorem dX8_meetNow_151 : decode cX8_meetNow 151 = .ok (.iastore, 1) := by decide +kernel
theorem dX8_meetNow_152 : decode cX8_meetNow 152 = .ok (.iload_n 3, 1) := by decide +kernel
theorem dX8_meetNow_153 : decode cX8_meetNow 153 = .ok (.ifCond .ne 7, 3) := by decide +kernel
theorem dX8_meetNow_156 : decode cX8_meetNow 156 = .ok (.iload_n 1, 1) := by decide +kernel
theorem dX8_meetNow_157 : decode cX8_meetNow 157 = .ok (.goto 13, 3) := by decide +kernel
theorem dX8_meetNow_160 : decode cX8_meetNow 160 = .ok (.iload_n 3, 1) := by decide +kernel
theorem dX8_meetNow_161 : decode cX8_meetNow 161 = .ok (.iconst 1, 1) := by decide +kernel
theorem dX8_meetNow_162 : decode cX8_meetNow 162 = .ok (.if_icmp .ne 7, 3) := by decide +kernel
theorem dX8_meetNow_165 : decode cX8_meetNow 165 = .ok (.iload_n 2, 1) := by decide +kernel
theorem dX8_meetNow_166 : decode cX8_meetNow 166 = .ok (.goto 4, 3) := by decide +kernel
theorem dX8_meetNow_169 : decode cX8_meetNow 169 = .ok (.iconst (-1), 1) := by decide +kernel
theorem dX8_meetNow_170 : decode cX8_meetNow 170 = .ok (.istore 4, 2) := by decide +kernel
theorem dX8_meetNow_172 : decode cX8_meetNow 172 = .ok (.iload 4, 2) := by decide +kernel
theorem dX8_meetNow_174 : decode cX8_meetNow 174 = .ok (.ifCond .lt 36, 3) := by decide +kernel
theorem dX8_meetNow_177 : decode cX8_meetNow 177 = .ok (.aload_n 0, 1) := by decide +kernel
theorem dX8_meetNow_178 : decode cX8_meetNow 178 = .ok (.getfield 16, 3) := by decide +kernel
theorem dX8_meetNow_181 : decode cX8_meetNow 181 = .ok (.bipush 19, 2) := by decide +kernel
theorem dX8_meetNow_183 : decode cX8_meetNow 183 = .ok (.iload 4, 2) := by decide +kernel
theorem dX8_meetNow_185 : decode cX8_meetNow 185 = .ok (.iadd, 1) := by decide +kernel
theorem dX8_meetNow_186 : decode cX8_meetNow 186 = .ok (.dup2, 1) := by decide +kernel
theorem dX8_meetNow_187 : decode cX8_meetNow 187 = .ok (.iaload, 1) := by decide +kernel
theorem dX8_meetNow_188 : decode cX8_meetNow 188 = .ok (.aload_n 0, 1) := by decide +kernel
theorem dX8_meetNow_189 : decode cX8_meetNow 189 = .ok (.getfield 16, 3) := by decide +kernel
theorem dX8_meetNow_192 : decode cX8_meetNow 192 = .ok (.bipush 19, 2) := by decide +kernel
theorem dX8_meetNow_194 : decode cX8_meetNow 194 = .ok (.iload 4, 2) := by decide +kernel
theorem dX8_meetNow_196 : decode cX8_meetNow 196 = .ok (.iadd, 1) := by decide +kernel
theorem dX8_meetNow_197 : decode cX8_meetNow 197 = .ok (.iaload, 1) := by decide +kernel
theorem dX8_meetNow_198 : decode cX8_meetNow 198 = .ok (.ldc 241, 2) := by decide +kernel
theorem dX8_meetNow_200 : decode cX8_meetNow 200 = .ok (.if_icmp .ge 7, 3) := by decide +kernel
theorem dX8_meetNow_203 : decode cX8_meetNow 203 = .ok (.iconst 1, 1) := by decide +kernel
theorem dX8_meetNow_204 : decode cX8_meetNow 204 = .ok (.goto 4, 3) := by decide +kernel
theorem dX8_meetNow_207 : decode cX8_meetNow 207 = .ok (.iconst 0, 1) := by decide +kernel
theorem dX8_meetNow_208 : decode cX8_meetNow 208 = .ok (.iadd, 1) := by decide +kernel
theorem dX8_meetNow_209 : decode cX8_meetNow 209 = .ok (.iastore, 1) := by decide +kernel
theorem dX8_meetNow_210 : decode cX8_meetNow 210 = .ok (.iload 4, 2) := by decide +kernel
theorem dX8_meetNow_212 : decode cX8_meetNow 212 = .ok (.ireturn, 1) := by decide +kernel
theorem dX8_meet_0 : decode cX8_meet 0 = .ok (.aload_n 0, 1) := by decide +kernel
theorem dX8_meet_1 : decode cX8_meet 1 = .ok (.iload_n 1, 1) := by decide +kernel
theorem dX8_meet_2 : decode cX8_meet 2 = .ok (.iload_n 2, 1) := by decide +kernel
theorem dX8_meet_3 : decode cX8_meet 3 = .ok (.invokevirtual 242, 3) := by decide +kernel
theorem dX8_meet_6 : decode cX8_meet 6 = .ok (.ifCond .ne 6, 3) := by decide +kernel
theorem dX8_meet_9 : decode cX8_meet 9 = .ok (.ldc 209, 2) := by decide +kernel
theorem dX8_meet_11 : decode cX8_meet 11 = .ok (.ireturn, 1) := by decide +kernel
theorem dX8_meet_12 : decode cX8_meet 12 = .ok (.aload_n 0, 1) := by decide +kernel
theorem dX8_meet_13 : decode cX8_meet 13 = .ok (.invokevirtual 232, 3) := by decide +kernel
theorem dX8_meet_16 : decode cX8_meet 16 = .ok (.aload_n 0, 1) := by decide +kernel
theorem dX8_meet_17 : decode cX8_meet 17 = .ok (.iload_n 1, 1) := by decide +kernel
theorem dX8_meet_18 : decode cX8_meet 18 = .ok (.iload_n 2, 1) := by decide +kernel
theorem dX8_meet_19 : decode cX8_meet 19 = .ok (.invokevirtual 246, 3) := by decide +kernel
theorem dX8_meet_22 : decode cX8_meet 22 = .ok (.ireturn, 1) := by decide +kernel
theorem dX8_force_0 : decode cX8_force 0 = .ok (.aload_n 0, 1) := by decide +kernel
theorem dX8_force_1 : decode cX8_force 1 = .ok (.iload_n 1, 1) := by decide +kernel
theorem dX8_force_2 : decode cX8_force 2 = .ok (.invokevirtual 206, 3) := by decide +kernel
theorem dX8_force_5 : decode cX8_force 5 = .ok (.ifCond .ne 6, 3) := by decide +kernel
theorem dX8_force_8 : decode cX8_force 8 = .ok (.ldc 209, 2) := by decide +kernel
theorem dX8_force_10 : decode cX8_force 10 = .ok (.ireturn, 1) := by decide +kernel
theorem dX8_force_11 : decode cX8_force 11 = .ok (.aload_n 0, 1) := by decide +kernel
theorem dX8_force_12 : decode cX8_force 12 = .ok (.iload_n 1, 1) := by decide +kernel
theorem dX8_force_13 : decode cX8_force 13 = .ok (.invokevirtual 210, 3) := by decide +kernel
theorem dX8_force_16 : decode cX8_force 16 = .ok (.istore_n 2, 1) := by decide +kernel
theorem dX8_force_17 : decode cX8_force 17 = .ok (.iload_n 2, 1) := by decide +kernel
theorem dX8_force_18 : decode cX8_force 18 = .ok (.ifCond .ge 6, 3) := by decide +kernel
theorem dX8_force_21 : decode cX8_force 21 = .ok (.ldc 231, 2) := by decide +kernel
theorem dX8_force_23 : decode cX8_force 23 = .ok (.ireturn, 1) := by decide +kernel
theorem dX8_force_24 : decode cX8_force 24 = .ok (.aload_n 0, 1) := by decide +kernel
theorem dX8_force_25 : decode cX8_force 25 = .ok (.invokevirtual 232, 3) := by decide +kernel
theorem dX8_force_28 : decode cX8_force 28 = .ok (.iload_n 2, 1) := by decide +kernel
theorem dX8_force_29 : decode cX8_force 29 = .ok (.istore_n 3, 1) := by decide +kernel
theorem dX8_force_30 : decode cX8_force 30 = .ok (.iload_n 3, 1) := by decide +kernel
theorem dX8_force_31 : decode cX8_force 31 = .ok (.ifCond .le 27, 3) := by decide +kernel
theorem dX8_force_34 : decode cX8_force 34 = .ok (.aload_n 0, 1) := by decide +kernel
theorem dX8_force_35 : decode cX8_force 35 = .ok (.getfield 16, 3) := by decide +kernel
theorem dX8_force_38 : decode cX8_force 38 = .ok (.iconst 0, 1) := by decide +kernel
theorem dX8_force_39 : decode cX8_force 39 = .ok (.iload_n 3, 1) := by decide +kernel
theorem dX8_force_40 : decode cX8_force 40 = .ok (.iadd, 1) := by decide +kernel
theorem dX8_force_41 : decode cX8_force 41 = .ok (.aload_n 0, 1) := by decide +kernel
theorem dX8_force_42 : decode cX8_force 42 = .ok (.getfield 16, 3) := by decide +kernel
theorem dX8_force_45 : decode cX8_force 45 = .ok (.iconst 0, 1) := by decide +kernel
theorem dX8_force_46 : decode cX8_force 46 = .ok (.iload_n 3, 1) := by decide +kernel
theorem dX8_force_47 : decode cX8_force 47 = .ok (.iadd, 1) := by decide +kernel
theorem dX8_force_48 : decode cX8_force 48 = .ok (.iconst 1, 1) := by decide +kernel
theorem dX8_force_49 : decode cX8_force 49 = .ok (.isub, 1) := by decide +kernel
theorem dX8_force_50 : decode cX8_force 50 = .ok (.iaload, 1) := by decide +kernel
theorem dX8_force_51 : decode cX8_force 51 = .ok (.iastore, 1) := by decide +kernel
theorem dX8_force_52 : decode cX8_force 52 = .ok (.iinc 3 (-1), 3) := by decide +kernel
theorem dX8_force_55 : decode cX8_force 55 = .ok (.goto (-25), 3) := by decide +kernel
theorem dX8_force_58 : decode cX8_force 58 = .ok (.aload_n 0, 1) := by decide +kernel
theorem dX8_force_59 : decode cX8_force 59 = .ok (.getfield 16, 3) := by decide +kernel
theorem dX8_force_62 : decode cX8_force 62 = .ok (.iconst 0, 1) := by decide +kernel
theorem dX8_force_63 : decode cX8_force 63 = .ok (.iload_n 1, 1) := by decide +kernel
theorem dX8_force_64 : decode cX8_force 64 = .ok (.iastore, 1) := by decide +kernel
theorem dX8_force_65 : decode cX8_force 65 = .ok (.iload_n 2, 1) := by decide +kernel
theorem dX8_force_66 : decode cX8_force 66 = .ok (.ireturn, 1) := by decide +kernel
theorem dX8_goes_0 : decode cX8_goes 0 = .ok (.iload_n 1, 1) := by decide +kernel
theorem dX8_goes_1 : decode cX8_goes 1 = .ok (.iconst 1, 1) := by decide +kernel
theorem dX8_goes_2 : decode cX8_goes 2 = .ok (.if_icmp .ne 9, 3) := by decide +kernel
theorem dX8_goes_5 : decode cX8_goes 5 = .ok (.iload_n 2, 1) := by decide +kernel
theorem dX8_goes_6 : decode cX8_goes 6 = .ok (.iconst 1, 1) := by decide +kernel
theorem dX8_goes_7 : decode cX8_goes 7 = .ok (.isub, 1) := by decide +kernel
theorem dX8_goes_8 : decode cX8_goes 8 = .ok (.iload_n 0, 1) := by decide +kernel
theorem dX8_goes_9 : decode cX8_goes 9 = .ok (.isub, 1) := by decide +kernel
theorem dX8_goes_10 : decode cX8_goes 10 = .ok (.ireturn, 1) := by decide +kernel
theorem dX8_goes_11 : decode cX8_goes 11 = .ok (.iload_n 1, 1) := by decide +kernel
theorem dX8_goes_12 : decode cX8_goes 12 = .ok (.iconst 2, 1) := by decide +kernel
theorem dX8_goes_13 : decode cX8_goes 13 = .ok (.if_icmp .ne 17, 3) := by decide +kernel
theorem dX8_goes_16 : decode cX8_goes 16 = .ok (.iload_n 0, 1) := by decide +kernel
theorem dX8_goes_17 : decode cX8_goes 17 = .ok (.ifCond .ne 9, 3) := by decide +kernel
theorem dX8_goes_20 : decode cX8_goes 20 = .ok (.iload_n 2, 1) := by decide +kernel
theorem dX8_goes_21 : decode cX8_goes 21 = .ok (.iconst 1, 1) := by decide +kernel
theorem dX8_goes_22 : decode cX8_goes 22 = .ok (.isub, 1) := by decide +kernel
theorem dX8_goes_23 : decode cX8_goes 23 = .ok (.goto 6, 3) := by decide +kernel
theorem dX8_goes_26 : decode cX8_goes 26 = .ok (.iload_n 0, 1) := by decide +kernel
theorem dX8_goes_27 : decode cX8_goes 27 = .ok (.iconst 1, 1) := by decide +kernel
theorem dX8_goes_28 : decode cX8_goes 28 = .ok (.isub, 1) := by decide +kernel
theorem dX8_goes_29 : decode cX8_goes 29 = .ok (.ireturn, 1) := by decide +kernel
theorem dX8_goes_30 : decode cX8_goes 30 = .ok (.iload_n 2, 1) := by decide +kernel
theorem dX8_goes_31 : decode cX8_goes 31 = .ok (.iconst 2, 1) := by decide +kernel
theorem dX8_goes_32 : decode cX8_goes 32 = .ok (.idiv, 1) := by decide +kernel
theorem dX8_goes_33 : decode cX8_goes 33 = .ok (.istore_n 3, 1) := by decide +kernel
theorem dX8_goes_34 : decode cX8_goes 34 = .ok (.iload_n 0, 1) := by decide +kernel
theorem dX8_goes_35 : decode cX8_goes 35 = .ok (.iload_n 3, 1) := by decide +kernel
theorem dX8_goes_36 : decode cX8_goes 36 = .ok (.if_icmp .ge 11, 3) := by decide +kernel
theorem dX8_goes_39 : decode cX8_goes 39 = .ok (.iconst 2, 1) := by decide +kernel
theorem dX8_goes_40 : decode cX8_goes 40 = .ok (.iload_n 0, 1) := by decide +kernel
theorem dX8_goes_41 : decode cX8_goes 41 = .ok (.imul, 1) := by decide +kernel
theorem dX8_goes_42 : decode cX8_goes 42 = .ok (.iconst 1, 1) := by decide +kernel
theorem dX8_goes_43 : decode cX8_goes 43 = .ok (.iadd, 1) := by decide +kernel
theorem dX8_goes_44 : decode cX8_goes 44 = .ok (.goto 8, 3) := by decide +kernel
theorem dX8_goes_47 : decode cX8_goes 47 = .ok (.iconst 2, 1) := by decide +kernel
theorem dX8_goes_48 : decode cX8_goes 48 = .ok (.iload_n 0, 1) := by decide +kernel
theorem dX8_goes_49 : decode cX8_goes 49 = .ok (.iload_n 3, 1) := by decide +kernel
theorem dX8_goes_50 : decode cX8_goes 50 = .ok (.isub, 1) := by decide +kernel
theorem dX8_goes_51 : decode cX8_goes 51 = .ok (.imul, 1) := by decide +kernel
theorem dX8_goes_52 : decode cX8_goes 52 = .ok (.ireturn, 1) := by decide +kernel
theorem dX8_shuffleNow_0 : decode cX8_shuffleNow 0 = .ok (.aload_n 0, 1) := by decide +kernel
theorem dX8_shuffleNow_1 : decode cX8_shuffleNow 1 = .ok (.getfield 16, 3) := by decide +kernel
theorem dX8_shuffleNow_4 : decode cX8_shuffleNow 4 = .ok (.bipush 12, 2) := by decide +kernel
theorem dX8_shuffleNow_6 : decode cX8_shuffleNow 6 = .ok (.iaload, 1) := by decide +kernel
theorem dX8_shuffleNow_7 : decode cX8_shuffleNow 7 = .ok (.istore_n 2, 1) := by decide +kernel
theorem dX8_shuffleNow_8 : decode cX8_shuffleNow 8 = .ok (.iconst 0, 1) := by decide +kernel
theorem dX8_shuffleNow_9 : decode cX8_shuffleNow 9 = .ok (.istore_n 3, 1) := by decide +kernel
theorem dX8_shuffleNow_10 : decode cX8_shuffleNow 10 = .ok (.iload_n 3, 1) := by decide +kernel
theorem dX8_shuffleNow_11 : decode cX8_shuffleNow 11 = .ok (.iload_n 2, 1) := by decide +kernel
theorem dX8_shuffleNow_12 : decode cX8_shuffleNow 12 = .ok (.if_icmp .ge 28, 3) := by decide +kernel
theorem dX8_shuffleNow_15 : decode cX8_shuffleNow 15 = .ok (.aload_n 0, 1) := by decide +kernel
theorem dX8_shuffleNow_16 : decode cX8_shuffleNow 16 = .ok (.getfield 38, 3) := by decide +kernel
theorem dX8_shuffleNow_19 : decode cX8_shuffleNow 19 = .ok (.iload_n 3, 1) := by decide +kernel
theorem dX8_shuffleNow_20 : decode cX8_shuffleNow 20 = .ok (.iload_n 1, 1) := by decide +kernel
theorem dX8_shuffleNow_21 : decode cX8_shuffleNow 21 = .ok (.iload_n 2, 1) := by decide +kernel
theorem dX8_shuffleNow_22 : decode cX8_shuffleNow 22 = .ok (.invokestatic 249, 3) := by decide +kernel
