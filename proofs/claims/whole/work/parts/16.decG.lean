theorem dX8_shuffleNow_25 : decode cX8_shuffleNow 25 = .ok (.aload_n 0, 1) := by decide +kernel
theorem dX8_shuffleNow_26 : decode cX8_shuffleNow 26 = .ok (.getfield 16, 3) := by decide +kernel
theorem dX8_shuffleNow_29 : decode cX8_shuffleNow 29 = .ok (.iconst 0, 1) := by decide +kernel
theorem dX8_shuffleNow_30 : decode cX8_shuffleNow 30 = .ok (.iload_n 3, 1) := by decide +kernel
theorem dX8_shuffleNow_31 : decode cX8_shuffleNow 31 = .ok (.iadd, 1) := by decide +kernel
theorem dX8_shuffleNow_32 : decode cX8_shuffleNow 32 = .ok (.iaload, 1) := by decide +kernel
theorem dX8_shuffleNow_33 : decode cX8_shuffleNow 33 = .ok (.iastore, 1) := by decide +kernel
theorem dX8_shuffleNow_34 : decode cX8_shuffleNow 34 = .ok (.iinc 3 1, 3) := by decide +kernel
theorem dX8_shuffleNow_37 : decode cX8_shuffleNow 37 = .ok (.goto (-27), 3) := by decide +kernel
theorem dX8_shuffleNow_40 : decode cX8_shuffleNow 40 = .ok (.iconst 0, 1) := by decide +kernel
theorem dX8_shuffleNow_41 : decode cX8_shuffleNow 41 = .ok (.istore_n 3, 1) := by decide +kernel
theorem dX8_shuffleNow_42 : decode cX8_shuffleNow 42 = .ok (.iload_n 3, 1) := by decide +kernel
theorem dX8_shuffleNow_43 : decode cX8_shuffleNow 43 = .ok (.iload_n 2, 1) := by decide +kernel
theorem dX8_shuffleNow_44 : decode cX8_shuffleNow 44 = .ok (.if_icmp .ge 23, 3) := by decide +kernel
theorem dX8_shuffleNow_47 : decode cX8_shuffleNow 47 = .ok (.aload_n 0, 1) := by decide +kernel
theorem dX8_shuffleNow_48 : decode cX8_shuffleNow 48 = .ok (.getfield 16, 3) := by decide +kernel
theorem dX8_shuffleNow_51 : decode cX8_shuffleNow 51 = .ok (.iconst 0, 1) := by decide +kernel
theorem dX8_shuffleNow_52 : decode cX8_shuffleNow 52 = .ok (.iload_n 3, 1) := by decide +kernel
theorem dX8_shuffleNow_53 : decode cX8_shuffleNow 53 = .ok (.iadd, 1) := by decide +kernel
theorem dX8_shuffleNow_54 : decode cX8_shuffleNow 54 = .ok (.aload_n 0, 1) := by decide +kernel
theorem dX8_shuffleNow_55 : decode cX8_shuffleNow 55 = .ok (.getfield 38, 3) := by decide +kernel
theorem dX8_shuffleNow_58 : decode cX8_shuffleNow 58 = .ok (.iload_n 3, 1) := by decide +kernel
theorem dX8_shuffleNow_59 : decode cX8_shuffleNow 59 = .ok (.iaload, 1) := by decide +kernel
theorem dX8_shuffleNow_60 : decode cX8_shuffleNow 60 = .ok (.iastore, 1) := by decide +kernel
theorem dX8_shuffleNow_61 : decode cX8_shuffleNow 61 = .ok (.iinc 3 1, 3) := by decide +kernel
theorem dX8_shuffleNow_64 : decode cX8_shuffleNow 64 = .ok (.goto (-22), 3) := by decide +kernel
theorem dX8_shuffleNow_67 : decode cX8_shuffleNow 67 = .ok (.return_, 1) := by decide +kernel
theorem dX8_shuffle_0 : decode cX8_shuffle 0 = .ok (.iload_n 1, 1) := by decide +kernel
theorem dX8_shuffle_1 : decode cX8_shuffle 1 = .ok (.i2l, 1) := by decide +kernel
theorem dX8_shuffle_2 : decode cX8_shuffle 2 = .ok (.lconst 0, 1) := by decide +kernel
theorem dX8_shuffle_3 : decode cX8_shuffle 3 = .ok (.ldc2_w 216, 3) := by decide +kernel
theorem dX8_shuffle_6 : decode cX8_shuffle 6 = .ok (.invokestatic 78, 3) := by decide +kernel
theorem dX8_shuffle_9 : decode cX8_shuffle 9 = .ok (.ifCond .ne 6, 3) := by decide +kernel
theorem dX8_shuffle_12 : decode cX8_shuffle 12 = .ok (.ldc 91, 2) := by decide +kernel
theorem dX8_shuffle_14 : decode cX8_shuffle 14 = .ok (.ireturn, 1) := by decide +kernel
theorem dX8_shuffle_15 : decode cX8_shuffle 15 = .ok (.aload_n 0, 1) := by decide +kernel
theorem dX8_shuffle_16 : decode cX8_shuffle 16 = .ok (.getfield 143, 3) := by decide +kernel
theorem dX8_shuffle_19 : decode cX8_shuffle 19 = .ok (.ifCond .ne 6, 3) := by decide +kernel
theorem dX8_shuffle_22 : decode cX8_shuffle 22 = .ok (.ldc 231, 2) := by decide +kernel
theorem dX8_shuffle_24 : decode cX8_shuffle 24 = .ok (.ireturn, 1) := by decide +kernel
theorem dX8_shuffle_25 : decode cX8_shuffle 25 = .ok (.aload_n 0, 1) := by decide +kernel
theorem dX8_shuffle_26 : decode cX8_shuffle 26 = .ok (.invokevirtual 232, 3) := by decide +kernel
theorem dX8_shuffle_29 : decode cX8_shuffle 29 = .ok (.aload_n 0, 1) := by decide +kernel
theorem dX8_shuffle_30 : decode cX8_shuffle 30 = .ok (.iload_n 1, 1) := by decide +kernel
theorem dX8_shuffle_31 : decode cX8_shuffle 31 = .ok (.invokevirtual 253, 3) := by decide +kernel
theorem dX8_shuffle_34 : decode cX8_shuffle 34 = .ok (.aload_n 0, 1) := by decide +kernel
theorem dX8_shuffle_35 : decode cX8_shuffle 35 = .ok (.getfield 16, 3) := by decide +kernel
theorem dX8_shuffle_38 : decode cX8_shuffle 38 = .ok (.bipush 12, 2) := by decide +kernel
theorem dX8_shuffle_40 : decode cX8_shuffle 40 = .ok (.iaload, 1) := by decide +kernel
theorem dX8_shuffle_41 : decode cX8_shuffle 41 = .ok (.ifCond .ne 7, 3) := by decide +kernel
theorem dX8_shuffle_44 : decode cX8_shuffle 44 = .ok (.iconst (-1), 1) := by decide +kernel
theorem dX8_shuffle_45 : decode cX8_shuffle 45 = .ok (.goto 9, 3) := by decide +kernel
theorem dX8_shuffle_48 : decode cX8_shuffle 48 = .ok (.aload_n 0, 1) := by decide +kernel
theorem dX8_shuffle_49 : decode cX8_shuffle 49 = .ok (.getfield 16, 3) := by decide +kernel
theorem dX8_shuffle_52 : decode cX8_shuffle 52 = .ok (.iconst 0, 1) := by decide +kernel
theorem dX8_shuffle_53 : decode cX8_shuffle 53 = .ok (.iaload, 1) := by decide +kernel
theorem dX8_shuffle_54 : decode cX8_shuffle 54 = .ok (.ireturn, 1) := by decide +kernel
theorem dX8_drawer_0 : decode cX8_drawer 0 = .ok (.aload_n 0, 1) := by decide +kernel
theorem dX8_drawer_1 : decode cX8_drawer 1 = .ok (.iload_n 1, 1) := by decide +kernel
theorem dX8_drawer_2 : decode cX8_drawer 2 = .ok (.invokevirtual 82, 3) := by decide +kernel
theorem dX8_drawer_5 : decode cX8_drawer 5 = .ok (.ifCond .ne 6, 3) := by decide +kernel
theorem dX8_drawer_8 : decode cX8_drawer 8 = .ok (.ldc 209, 2) := by decide +kernel
theorem dX8_drawer_10 : decode cX8_drawer 10 = .ok (.ireturn, 1) := by decide +kernel
theorem dX8_drawer_11 : decode cX8_drawer 11 = .ok (.aload_n 0, 1) := by decide +kernel
theorem dX8_drawer_12 : decode cX8_drawer 12 = .ok (.getfield 16, 3) := by decide +kernel
theorem dX8_drawer_15 : decode cX8_drawer 15 = .ok (.bipush 13, 2) := by decide +kernel
theorem dX8_drawer_17 : decode cX8_drawer 17 = .ok (.iload_n 1, 1) := by decide +kernel
theorem dX8_drawer_18 : decode cX8_drawer 18 = .ok (.iadd, 1) := by decide +kernel
theorem dX8_drawer_19 : decode cX8_drawer 19 = .ok (.iaload, 1) := by decide +kernel
theorem dX8_drawer_20 : decode cX8_drawer 20 = .ok (.ifCond .ge 6, 3) := by decide +kernel
theorem dX8_drawer_23 : decode cX8_drawer 23 = .ok (.ldc 231, 2) := by decide +kernel
theorem dX8_drawer_25 : decode cX8_drawer 25 = .ok (.ireturn, 1) := by decide +kernel
theorem dX8_drawer_26 : decode cX8_drawer 26 = .ok (.aload_n 0, 1) := by decide +kernel
theorem dX8_drawer_27 : decode cX8_drawer 27 = .ok (.invokevirtual 232, 3) := by decide +kernel
theorem dX8_drawer_30 : decode cX8_drawer 30 = .ok (.aload_n 0, 1) := by decide +kernel
theorem dX8_drawer_31 : decode cX8_drawer 31 = .ok (.getfield 16, 3) := by decide +kernel
theorem dX8_drawer_34 : decode cX8_drawer 34 = .ok (.bipush 13, 2) := by decide +kernel
theorem dX8_drawer_36 : decode cX8_drawer 36 = .ok (.iload_n 1, 1) := by decide +kernel
theorem dX8_drawer_37 : decode cX8_drawer 37 = .ok (.iadd, 1) := by decide +kernel
theorem dX8_drawer_38 : decode cX8_drawer 38 = .ok (.iaload, 1) := by decide +kernel
theorem dX8_drawer_39 : decode cX8_drawer 39 = .ok (.istore_n 2, 1) := by decide +kernel
theorem dX8_drawer_40 : decode cX8_drawer 40 = .ok (.aload_n 0, 1) := by decide +kernel
theorem dX8_drawer_41 : decode cX8_drawer 41 = .ok (.getfield 16, 3) := by decide +kernel
theorem dX8_drawer_44 : decode cX8_drawer 44 = .ok (.bipush 13, 2) := by decide +kernel
theorem dX8_drawer_46 : decode cX8_drawer 46 = .ok (.iload_n 1, 1) := by decide +kernel
theorem dX8_drawer_47 : decode cX8_drawer 47 = .ok (.iadd, 1) := by decide +kernel
theorem dX8_drawer_48 : decode cX8_drawer 48 = .ok (.iconst (-1), 1) := by decide +kernel
theorem dX8_drawer_49 : decode cX8_drawer 49 = .ok (.iastore, 1) := by decide +kernel
theorem dX8_drawer_50 : decode cX8_drawer 50 = .ok (.aload_n 0, 1) := by decide +kernel
theorem dX8_drawer_51 : decode cX8_drawer 51 = .ok (.getfield 16, 3) := by decide +kernel
theorem dX8_drawer_54 : decode cX8_drawer 54 = .ok (.bipush 25, 2) := by decide +kernel
theorem dX8_drawer_56 : decode cX8_drawer 56 = .ok (.dup2, 1) := by decide +kernel
theorem dX8_drawer_57 : decode cX8_drawer 57 = .ok (.iaload, 1) := by decide +kernel
theorem dX8_drawer_58 : decode cX8_drawer 58 = .ok (.iconst 1, 1) := by decide +kernel
theorem dX8_drawer_59 : decode cX8_drawer 59 = .ok (.iload_n 2, 1) := by decide +kernel
theorem dX8_drawer_60 : decode cX8_drawer 60 = .ok (.ishl, 1) := by decide +kernel
theorem dX8_drawer_61 : decode cX8_drawer 61 = .ok (.ior, 1) := by decide +kernel
theorem dX8_drawer_62 : decode cX8_drawer 62 = .ok (.iastore, 1) := by decide +kernel
theorem dX8_drawer_63 : decode cX8_drawer 63 = .ok (.iload_n 2, 1) := by decide +kernel
theorem dX8_drawer_64 : decode cX8_drawer 64 = .ok (.ireturn, 1) := by decide +kernel
theorem dX8_out_0 : decode cX8_out 0 = .ok (.aload_n 0, 1) := by decide +kernel
theorem dX8_out_1 : decode cX8_out 1 = .ok (.iload_n 1, 1) := by decide +kernel
theorem dX8_out_2 : decode cX8_out 2 = .ok (.invokevirtual 206, 3) := by decide +kernel
theorem dX8_out_5 : decode cX8_out 5 = .ok (.ifCond .ne 6, 3) := by decide +kernel
theorem dX8_out_8 : decode cX8_out 8 = .ok (.ldc 209, 2) := by decide +kernel
theorem dX8_out_10 : decode cX8_out 10 = .ok (.ireturn, 1) := by decide +kernel
theorem dX8_out_11 : decode cX8_out 11 = .ok (.aload_n 0, 1) := by decide +kernel
theorem dX8_out_12 : decode cX8_out 12 = .ok (.getfield 16, 3) := by decide +kernel
theorem dX8_out_15 : decode cX8_out 15 = .ok (.bipush 25, 2) := by decide +kernel
theorem dX8_out_17 : decode cX8_out 17 = .ok (.iaload, 1) := by decide +kernel
theorem dX8_out_18 : decode cX8_out 18 = .ok (.iload_n 1, 1) := by decide +kernel
theorem dX8_out_19 : decode cX8_out 19 = .ok (.invokestatic 256, 3) := by decide +kernel
theorem dX8_out_22 : decode cX8_out 22 = .ok (.ifCond .ne 6, 3) := by decide +kernel
theorem dX8_out_25 : decode cX8_out 25 = .ok (.ldc 231, 2) := by decide +kernel
theorem dX8_out_27 : decode cX8_out 27 = .ok (.ireturn, 1) := by decide +kernel
theorem dX8_out_28 : decode cX8_out 28 = .ok (.aload_n 0, 1) := by decide +kernel
theorem dX8_out_29 : decode cX8_out 29 = .ok (.invokevirtual 232, 3) := by decide +kernel
theorem dX8_out_32 : decode cX8_out 32 = .ok (.aload_n 0, 1) := by decide +kernel
theorem dX8_out_33 : decode cX8_out 33 = .ok (.getfield 16, 3) := by decide +kernel
theorem dX8_out_36 : decode cX8_out 36 = .ok (.bipush 25, 2) := by decide +kernel
theorem dX8_out_38 : decode cX8_out 38 = .ok (.dup2, 1) := by decide +kernel
theorem dX8_out_39 : decode cX8_out 39 = .ok (.iaload, 1) := by decide +kernel
theorem dX8_out_40 : decode cX8_out 40 = .ok (.iconst 1, 1) := by decide +kernel
theorem dX8_out_41 : decode cX8_out 41 = .ok (.iload_n 1, 1) := by decide +kernel
theorem dX8_out_42 : decode cX8_out 42 = .ok (.ishl, 1) := by decide +kernel
theorem dX8_out_43 : decode cX8_out 43 = .ok (.iconst (-1), 1) := by decide +kernel
theorem dX8_out_44 : decode cX8_out 44 = .ok (.ixor, 1) := by decide +kernel
theorem dX8_out_45 : decode cX8_out 45 = .ok (.iand, 1) := by decide +kernel
theorem dX8_out_46 : decode cX8_out 46 = .ok (.iastore, 1) := by decide +kernel
theorem dX8_out_47 : decode cX8_out 47 = .ok (.aload_n 0, 1) := by decide +kernel
theorem dX8_out_48 : decode cX8_out 48 = .ok (.iload_n 1, 1) := by decide +kernel
theorem dX8_out_49 : decode cX8_out 49 = .ok (.invokevirtual 224, 3) := by decide +kernel
theorem dX8_out_52 : decode cX8_out 52 = .ok (.aload_n 0, 1) := by decide +kernel
theorem dX8_out_53 : decode cX8_out 53 = .ok (.getfield 16, 3) := by decide +kernel
theorem dX8_out_56 : decode cX8_out 56 = .ok (.bipush 12, 2) := by decide +kernel
theorem dX8_out_58 : decode cX8_out 58 = .ok (.iaload, 1) := by decide +kernel
theorem dX8_out_59 : decode cX8_out 59 = .ok (.ireturn, 1) := by decide +kernel
theorem dX8_draw_0 : decode cX8_draw 0 = .ok (.aload_n 0, 1) := by decide +kernel
theorem dX8_draw_1 : decode cX8_draw 1 = .ok (.aload_n 0, 1) := by decide +kernel
theorem dX8_draw_2 : decode cX8_draw 2 = .ok (.getfield 259, 3) := by decide +kernel
theorem dX8_draw_5 : decode cX8_draw 5 = .ok (.i2l, 1) := by decide +kernel
theorem dX8_draw_6 : decode cX8_draw 6 = .ok (.ldc2_w 262, 3) := by decide +kernel
theorem dX8_draw_9 : decode cX8_draw 9 = .ok (.lmul, 1) := by decide +kernel
theorem dX8_draw_10 : decode cX8_draw 10 = .ok (.ldc2_w 264, 3) := by decide +kernel
theorem dX8_draw_13 : decode cX8_draw 13 = .ok (.ladd, 1) := by decide +kernel
theorem dX8_draw_14 : decode cX8_draw 14 = .ok (.ldc2_w 266, 3) := by decide +kernel
theorem dX8_draw_17 : decode cX8_draw 17 = .ok (.lrem, 1) := by decide +kernel
theorem dX8_draw_18 : decode cX8_draw 18 = .ok (.l2i, 1) := by decide +kernel
theorem dX8_draw_19 : decode cX8_draw 19 = .ok (.putfield 259, 3) := by decide +kernel
theorem dX8_draw_22 : decode cX8_draw 22 = .ok (.aload_n 0, 1) := by decide +kernel
theorem dX8_draw_23 : decode cX8_draw 23 = .ok (.getfield 259, 3) := by decide +kernel
theorem dX8_draw_26 : decode cX8_draw 26 = .ok (.ldc_w 268, 3) := by decide +kernel
theorem dX8_draw_29 : decode cX8_draw 29 = .ok (.idiv, 1) := by decide +kernel
theorem dX8_draw_30 : decode cX8_draw 30 = .ok (.iload_n 1, 1) := by decide +kernel
theorem dX8_draw_31 : decode cX8_draw 31 = .ok (.irem, 1) := by decide +kernel
theorem dX8_draw_32 : decode cX8_draw 32 = .ok (.ireturn, 1) := by decide +kernel
theorem dX8_happen_0 : decode cX8_happen 0 = .ok (.aload_n 0, 1) := by decide +kernel
theorem dX8_happen_1 : decode cX8_happen 1 = .ok (.aload_n 0, 1) := by decide +kernel
theorem dX8_happen_2 : decode cX8_happen 2 = .ok (.getfield 75, 3) := by decide +kernel
theorem dX8_happen_5 : decode cX8_happen 5 = .ok (.invokevirtual 269, 3) := by decide +kernel
theorem dX8_happen_8 : decode cX8_happen 8 = .ok (.istore_n 1, 1) := by decide +kernel
theorem dX8_happen_9 : decode cX8_happen 9 = .ok (.aload_n 0, 1) := by decide +kernel
theorem dX8_happen_10 : decode cX8_happen 10 = .ok (.iconst 5, 1) := by decide +kernel
theorem dX8_happen_11 : decode cX8_happen 11 = .ok (.invokevirtual 269, 3) := by decide +kernel
theorem dX8_happen_14 : decode cX8_happen 14 = .ok (.istore_n 2, 1) := by decide +kernel
theorem dX8_happen_15 : decode cX8_happen 15 = .ok (.iload_n 2, 1) := by decide +kernel
theorem dX8_happen_16 : decode cX8_happen 16 = .ok (.iconst 2, 1) := by decide +kernel
theorem dX8_happen_17 : decode cX8_happen 17 = .ok (.if_icmp .ge 28, 3) := by decide +kernel
theorem dX8_happen_20 : decode cX8_happen 20 = .ok (.aload_n 0, 1) := by decide +kernel
theorem dX8_happen_21 : decode cX8_happen 21 = .ok (.iload_n 1, 1) := by decide +kernel
theorem dX8_happen_22 : decode cX8_happen 22 = .ok (.invokevirtual 228, 3) := by decide +kernel
theorem dX8_happen_25 : decode cX8_happen 25 = .ok (.ifCond .eq 20, 3) := by decide +kernel
theorem dX8_happen_28 : decode cX8_happen 28 = .ok (.aload_n 0, 1) := by decide +kernel
theorem dX8_happen_29 : decode cX8_happen 29 = .ok (.getfield 16, 3) := by decide +kernel
theorem dX8_happen_32 : decode cX8_happen 32 = .ok (.bipush 13, 2) := by decide +kernel
theorem dX8_happen_34 : decode cX8_happen 34 = .ok (.iload_n 1, 1) := by decide +kernel
theorem dX8_happen_35 : decode cX8_happen 35 = .ok (.iadd, 1) := by decide +kernel
theorem dX8_happen_36 : decode cX8_happen 36 = .ok (.aload_n 0, 1) := by decide +kernel
theorem dX8_happen_37 : decode cX8_happen 37 = .ok (.iconst 0, 1) := by decide +kernel
theorem dX8_happen_38 : decode cX8_happen 38 = .ok (.invokevirtual 235, 3) := by decide +kernel
theorem dX8_happen_41 : decode cX8_happen 41 = .ok (.iastore, 1) := by decide +kernel
theorem dX8_happen_42 : decode cX8_happen 42 = .ok (.goto 76, 3) := by decide +kernel
theorem dX8_happen_45 : decode cX8_happen 45 = .ok (.iload_n 2, 1) := by decide +kernel
theorem dX8_happen_46 : decode cX8_happen 46 = .ok (.iconst 2, 1) := by decide +kernel
theorem dX8_happen_47 : decode cX8_happen 47 = .ok (.if_icmp .ne 23, 3) := by decide +kernel
theorem dX8_happen_50 : decode cX8_happen 50 = .ok (.aload_n 0, 1) := by decide +kernel
theorem dX8_happen_51 : decode cX8_happen 51 = .ok (.getfield 16, 3) := by decide +kernel
theorem dX8_happen_54 : decode cX8_happen 54 = .ok (.bipush 13, 2) := by decide +kernel
theorem dX8_happen_56 : decode cX8_happen 56 = .ok (.iload_n 1, 1) := by decide +kernel
theorem dX8_happen_57 : decode cX8_happen 57 = .ok (.iadd, 1) := by decide +kernel
theorem dX8_happen_58 : decode cX8_happen 58 = .ok (.iaload, 1) := by decide +kernel
theorem dX8_happen_59 : decode cX8_happen 59 = .ok (.ifCond .lt 11, 3) := by decide +kernel
theorem dX8_happen_62 : decode cX8_happen 62 = .ok (.aload_n 0, 1) := by decide +kernel
theorem dX8_happen_63 : decode cX8_happen 63 = .ok (.iload_n 1, 1) := by decide +kernel
theorem dX8_happen_64 : decode cX8_happen 64 = .ok (.invokevirtual 238, 3) := by decide +kernel
theorem dX8_happen_67 : decode cX8_happen 67 = .ok (.goto 51, 3) := by decide +kernel
theorem dX8_happen_70 : decode cX8_happen 70 = .ok (.iload_n 2, 1) := by decide +kernel
theorem dX8_happen_71 : decode cX8_happen 71 = .ok (.iconst 3, 1) := by decide +kernel
theorem dX8_happen_72 : decode cX8_happen 72 = .ok (.if_icmp .ne 32, 3) := by decide +kernel
theorem dX8_happen_75 : decode cX8_happen 75 = .ok (.aload_n 0, 1) := by decide +kernel
theorem dX8_happen_76 : decode cX8_happen 76 = .ok (.aload_n 0, 1) := by decide +kernel
theorem dX8_happen_77 : decode cX8_happen 77 = .ok (.getfield 75, 3) := by decide +kernel
theorem dX8_happen_80 : decode cX8_happen 80 = .ok (.invokevirtual 269, 3) := by decide +kernel
theorem dX8_happen_83 : decode cX8_happen 83 = .ok (.istore_n 3, 1) := by decide +kernel
theorem dX8_happen_84 : decode cX8_happen 84 = .ok (.iload_n 3, 1) := by decide +kernel
theorem dX8_happen_85 : decode cX8_happen 85 = .ok (.iload_n 1, 1) := by decide +kernel
theorem dX8_happen_86 : decode cX8_happen 86 = .ok (.if_icmp .ne 7, 3) := by decide +kernel
theorem dX8_happen_89 : decode cX8_happen 89 = .ok (.iconst (-1), 1) := by decide +kernel
theorem dX8_happen_90 : decode cX8_happen 90 = .ok (.goto 9, 3) := by decide +kernel
theorem dX8_happen_93 : decode cX8_happen 93 = .ok (.aload_n 0, 1) := by decide +kernel
theorem dX8_happen_94 : decode cX8_happen 94 = .ok (.iload_n 1, 1) := by decide +kernel
theorem dX8_happen_95 : decode cX8_happen 95 = .ok (.iload_n 3, 1) := by decide +kernel
theorem dX8_happen_96 : decode cX8_happen 96 = .ok (.invokevirtual 246, 3) := by decide +kernel
theorem dX8_happen_99 : decode cX8_happen 99 = .ok (.istore 4, 2) := by decide +kernel
theorem dX8_happen_101 : decode cX8_happen 101 = .ok (.goto 17, 3) := by decide +kernel
theorem dX8_happen_104 : decode cX8_happen 104 = .ok (.iload_n 2, 1) := by decide +kernel
theorem dX8_happen_105 : decode cX8_happen 105 = .ok (.iconst 4, 1) := by decide +kernel
theorem dX8_happen_106 : decode cX8_happen 106 = .ok (.if_icmp .ne 12, 3) := by decide +kernel
theorem dX8_happen_109 : decode cX8_happen 109 = .ok (.aload_n 0, 1) := by decide +kernel
theorem dX8_happen_110 : decode cX8_happen 110 = .ok (.aload_n 0, 1) := by decide +kernel
theorem dX8_happen_111 : decode cX8_happen 111 = .ok (.iconst 3, 1) := by decide +kernel
theorem dX8_happen_112 : decode cX8_happen 112 = .ok (.invokevirtual 269, 3) := by decide +kernel
theorem dX8_happen_115 : decode cX8_happen 115 = .ok (.invokevirtual 253, 3) := by decide +kernel
theorem dX8_happen_118 : decode cX8_happen 118 = .ok (.return_, 1) := by decide +kernel
theorem dX8_drift_0 : decode cX8_drift 0 = .ok (.iload_n 1, 1) := by decide +kernel
theorem dX8_drift_1 : decode cX8_drift 1 = .ok (.i2l, 1) := by decide +kernel
theorem dX8_drift_2 : decode cX8_drift 2 = .ok (.lconst 1, 1) := by decide +kernel
theorem dX8_drift_3 : decode cX8_drift 3 = .ok (.ldc2_w 272, 3) := by decide +kernel
theorem dX8_drift_6 : decode cX8_drift 6 = .ok (.invokestatic 78, 3) := by decide +kernel
theorem dX8_drift_9 : decode cX8_drift 9 = .ok (.ifCond .ne 6, 3) := by decide +kernel
theorem dX8_drift_12 : decode cX8_drift 12 = .ok (.ldc 91, 2) := by decide +kernel
theorem dX8_drift_14 : decode cX8_drift 14 = .ok (.ireturn, 1) := by decide +kernel
theorem dX8_drift_15 : decode cX8_drift 15 = .ok (.aload_n 0, 1) := by decide +kernel
theorem dX8_drift_16 : decode cX8_drift 16 = .ok (.getfield 143, 3) := by decide +kernel
theorem dX8_drift_19 : decode cX8_drift 19 = .ok (.ifCond .ne 6, 3) := by decide +kernel
theorem dX8_drift_22 : decode cX8_drift 22 = .ok (.ldc 231, 2) := by decide +kernel
theorem dX8_drift_24 : decode cX8_drift 24 = .ok (.ireturn, 1) := by decide +kernel
theorem dX8_drift_25 : decode cX8_drift 25 = .ok (.aload_n 0, 1) := by decide +kernel
theorem dX8_drift_26 : decode cX8_drift 26 = .ok (.invokevirtual 232, 3) := by decide +kernel
theorem dX8_drift_29 : decode cX8_drift 29 = .ok (.iconst 0, 1) := by decide +kernel
theorem dX8_drift_30 : decode cX8_drift 30 = .ok (.istore_n 2, 1) := by decide +kernel
theorem dX8_drift_31 : decode cX8_drift 31 = .ok (.iload_n 2, 1) := by decide +kernel
theorem dX8_drift_32 : decode cX8_drift 32 = .ok (.iload_n 1, 1) := by decide +kernel
theorem dX8_drift_33 : decode cX8_drift 33 = .ok (.if_icmp .ge 20, 3) := by decide +kernel
theorem dX8_drift_36 : decode cX8_drift 36 = .ok (.aload_n 0, 1) := by decide +kernel
theorem dX8_drift_37 : decode cX8_drift 37 = .ok (.getfield 75, 3) := by decide +kernel
theorem dX8_drift_40 : decode cX8_drift 40 = .ok (.ifCond .le 13, 3) := by decide +kernel
theorem dX8_drift_43 : decode cX8_drift 43 = .ok (.aload_n 0, 1) := by decide +kernel
theorem dX8_drift_44 : decode cX8_drift 44 = .ok (.invokevirtual 274, 3) := by decide +kernel
theorem dX8_drift_47 : decode cX8_drift 47 = .ok (.iinc 2 1, 3) := by decide +kernel
theorem dX8_drift_50 : decode cX8_drift 50 = .ok (.goto (-19), 3) := by decide +kernel
theorem dX8_drift_53 : decode cX8_drift 53 = .ok (.aload_n 0, 1) := by decide +kernel
theorem dX8_drift_54 : decode cX8_drift 54 = .ok (.invokevirtual 197, 3) := by decide +kernel
theorem dX8_drift_57 : decode cX8_drift 57 = .ok (.ireturn, 1) := by decide +kernel
theorem dX8_undo_0 : decode cX8_undo 0 = .ok (.aload_n 0, 1) := by decide +kernel
theorem dX8_undo_1 : decode cX8_undo 1 = .ok (.getfield 167, 3) := by decide +kernel
theorem dX8_undo_4 : decode cX8_undo 4 = .ok (.ifCond .ne 6, 3) := by decide +kernel
theorem dX8_undo_7 : decode cX8_undo 7 = .ok (.ldc 231, 2) := by decide +kernel
theorem dX8_undo_9 : decode cX8_undo 9 = .ok (.ireturn, 1) := by decide +kernel
theorem dX8_undo_10 : decode cX8_undo 10 = .ok (.aload_n 0, 1) := by decide +kernel
theorem dX8_undo_11 : decode cX8_undo 11 = .ok (.dup, 1) := by decide +kernel
theorem dX8_undo_12 : decode cX8_undo 12 = .ok (.getfield 167, 3) := by decide +kernel
theorem dX8_undo_15 : decode cX8_undo 15 = .ok (.iconst 1, 1) := by decide +kernel
theorem dX8_undo_16 : decode cX8_undo 16 = .ok (.isub, 1) := by decide +kernel
theorem dX8_undo_17 : decode cX8_undo 17 = .ok (.putfield 167, 3) := by decide +kernel
theorem dX8_undo_20 : decode cX8_undo 20 = .ok (.iconst 0, 1) := by decide +kernel
theorem dX8_undo_21 : decode cX8_undo 21 = .ok (.istore_n 1, 1) := by decide +kernel
theorem dX8_undo_22 : decode cX8_undo 22 = .ok (.iload_n 1, 1) := by decide +kernel
theorem dX8_undo_23 : decode cX8_undo 23 = .ok (.bipush 51, 2) := by decide +kernel
theorem dX8_undo_25 : decode cX8_undo 25 = .ok (.if_icmp .ge 29, 3) := by decide +kernel
theorem dX8_undo_28 : decode cX8_undo 28 = .ok (.aload_n 0, 1) := by decide +kernel
theorem dX8_undo_29 : decode cX8_undo 29 = .ok (.getfield 16, 3) := by decide +kernel
theorem dX8_undo_32 : decode cX8_undo 32 = .ok (.iload_n 1, 1) := by decide +kernel
theorem dX8_undo_33 : decode cX8_undo 33 = .ok (.aload_n 0, 1) := by decide +kernel
theorem dX8_undo_34 : decode cX8_undo 34 = .ok (.getfield 35, 3) := by decide +kernel
theorem dX8_undo_37 : decode cX8_undo 37 = .ok (.bipush 51, 2) := by decide +kernel
theorem dX8_undo_39 : decode cX8_undo 39 = .ok (.aload_n 0, 1) := by decide +kernel
theorem dX8_undo_40 : decode cX8_undo 40 = .ok (.getfield 167, 3) := by decide +kernel
theorem dX8_undo_43 : decode cX8_undo 43 = .ok (.imul, 1) := by decide +kernel
theorem dX8_undo_44 : decode cX8_undo 44 = .ok (.iload_n 1, 1) := by decide +kernel
theorem dX8_undo_45 : decode cX8_undo 45 = .ok (.iadd, 1) := by decide +kernel
theorem dX8_undo_46 : decode cX8_undo 46 = .ok (.iaload, 1) := by decide +kernel
theorem dX8_undo_47 : decode cX8_undo 47 = .ok (.iastore, 1) := by decide +kernel
theorem dX8_undo_48 : decode cX8_undo 48 = .ok (.iinc 1 1, 3) := by decide +kernel
theorem dX8_undo_51 : decode cX8_undo 51 = .ok (.goto (-29), 3) := by decide +kernel
theorem dX8_undo_54 : decode cX8_undo 54 = .ok (.aload_n 0, 1) := by decide +kernel
theorem dX8_undo_55 : decode cX8_undo 55 = .ok (.getfield 167, 3) := by decide +kernel
theorem dX8_undo_58 : decode cX8_undo 58 = .ok (.ireturn, 1) := by decide +kernel
theorem dX8_beats_0 : decode cX8_beats 0 = .ok (.aload_n 0, 1) := by decide +kernel
theorem dX8_beats_1 : decode cX8_beats 1 = .ok (.iload_n 1, 1) := by decide +kernel
theorem dX8_beats_2 : decode cX8_beats 2 = .ok (.invokevirtual 206, 3) := by decide +kernel
theorem dX8_beats_5 : decode cX8_beats 5 = .ok (.ifCond .eq 16, 3) := by decide +kernel
theorem dX8_beats_8 : decode cX8_beats 8 = .ok (.aload_n 0, 1) := by decide +kernel
theorem dX8_beats_9 : decode cX8_beats 9 = .ok (.iload_n 2, 1) := by decide +kernel
theorem dX8_beats_10 : decode cX8_beats 10 = .ok (.invokevirtual 206, 3) := by decide +kernel
theorem dX8_beats_13 : decode cX8_beats 13 = .ok (.ifCond .eq 8, 3) := by decide +kernel
theorem dX8_beats_16 : decode cX8_beats 16 = .ok (.iload_n 1, 1) := by decide +kernel
theorem dX8_beats_17 : decode cX8_beats 17 = .ok (.iload_n 2, 1) := by decide +kernel
theorem dX8_beats_18 : decode cX8_beats 18 = .ok (.if_icmp .ne 6, 3) := by decide +kernel
theorem dX8_beats_21 : decode cX8_beats 21 = .ok (.ldc 209, 2) := by decide +kernel
theorem dX8_beats_23 : decode cX8_beats 23 = .ok (.ireturn, 1) := by decide +kernel
theorem dX8_beats_24 : decode cX8_beats 24 = .ok (.aload_n 0, 1) := by decide +kernel
theorem dX8_beats_25 : decode cX8_beats 25 = .ok (.iload_n 1, 1) := by decide +kernel
theorem dX8_beats_26 : decode cX8_beats 26 = .ok (.iload_n 2, 1) := by decide +kernel
theorem dX8_beats_27 : decode cX8_beats 27 = .ok (.invokevirtual 174, 3) := by decide +kernel
theorem dX8_beats_30 : decode cX8_beats 30 = .ok (.istore_n 3, 1) := by decide +kernel
theorem dX8_beats_31 : decode cX8_beats 31 = .ok (.iload_n 3, 1) := by decide +kernel
theorem dX8_beats_32 : decode cX8_beats 32 = .ok (.ifCond .ne 7, 3) := by decide +kernel
theorem dX8_beats_35 : decode cX8_beats 35 = .ok (.iconst 1, 1) := by decide +kernel
theorem dX8_beats_36 : decode cX8_beats 36 = .ok (.goto 13, 3) := by decide +kernel
theorem dX8_beats_39 : decode cX8_beats 39 = .ok (.iload_n 3, 1) := by decide +kernel
theorem dX8_beats_40 : decode cX8_beats 40 = .ok (.iconst 1, 1) := by decide +kernel
theorem dX8_beats_41 : decode cX8_beats 41 = .ok (.if_icmp .ne 7, 3) := by decide +kernel
theorem dX8_beats_44 : decode cX8_beats 44 = .ok (.iconst 2, 1) := by decide +kernel
theorem dX8_beats_45 : decode cX8_beats 45 = .ok (.goto 4, 3) := by decide +kernel
theorem dX8_beats_48 : decode cX8_beats 48 = .ok (.iconst 0, 1) := by decide +kernel
theorem dX8_beats_49 : decode cX8_beats 49 = .ok (.ireturn, 1) := by decide +kernel
theorem dX8_isRing_0 : decode cX8_isRing 0 = .ok (.iload_n 1, 1) := by decide +kernel
theorem dX8_isRing_1 : decode cX8_isRing 1 = .ok (.aload_n 0, 1) := by decide +kernel
theorem dX8_isRing_2 : decode cX8_isRing 2 = .ok (.getfield 75, 3) := by decide +kernel
theorem dX8_isRing_5 : decode cX8_isRing 5 = .ok (.if_icmp .ge 38, 3) := by decide +kernel
theorem dX8_isRing_8 : decode cX8_isRing 8 = .ok (.iload_n 2, 1) := by decide +kernel
theorem dX8_isRing_9 : decode cX8_isRing 9 = .ok (.aload_n 0, 1) := by decide +kernel
theorem dX8_isRing_10 : decode cX8_isRing 10 = .ok (.getfield 75, 3) := by decide +kernel
theorem dX8_isRing_13 : decode cX8_isRing 13 = .ok (.if_icmp .ge 30, 3) := by decide +kernel
theorem dX8_isRing_16 : decode cX8_isRing 16 = .ok (.iload_n 3, 1) := by decide +kernel
theorem dX8_isRing_17 : decode cX8_isRing 17 = .ok (.aload_n 0, 1) := by decide +kernel
theorem dX8_isRing_18 : decode cX8_isRing 18 = .ok (.getfield 75, 3) := by decide +kernel
theorem dX8_isRing_21 : decode cX8_isRing 21 = .ok (.if_icmp .ge 22, 3) := by decide +kernel
theorem dX8_isRing_24 : decode cX8_isRing 24 = .ok (.iload_n 1, 1) := by decide +kernel
theorem dX8_isRing_25 : decode cX8_isRing 25 = .ok (.iload_n 2, 1) := by decide +kernel
theorem dX8_isRing_26 : decode cX8_isRing 26 = .ok (.if_icmp .ge 17, 3) := by decide +kernel
theorem dX8_isRing_29 : decode cX8_isRing 29 = .ok (.iload_n 1, 1) := by decide +kernel
theorem dX8_isRing_30 : decode cX8_isRing 30 = .ok (.iload_n 3, 1) := by decide +kernel
theorem dX8_isRing_31 : decode cX8_isRing 31 = .ok (.if_icmp .ge 12, 3) := by decide +kernel
theorem dX8_isRing_34 : decode cX8_isRing 34 = .ok (.iload_n 2, 1) := by decide +kernel
theorem dX8_isRing_35 : decode cX8_isRing 35 = .ok (.iload_n 3, 1) := by decide +kernel
theorem dX8_isRing_36 : decode cX8_isRing 36 = .ok (.if_icmp .eq 7, 3) := by decide +kernel
theorem dX8_isRing_39 : decode cX8_isRing 39 = .ok (.iconst 1, 1) := by decide +kernel
theorem dX8_isRing_40 : decode cX8_isRing 40 = .ok (.goto 4, 3) := by decide +kernel
theorem dX8_isRing_43 : decode cX8_isRing 43 = .ok (.iconst 0, 1) := by decide +kernel
theorem dX8_isRing_44 : decode cX8_isRing 44 = .ok (.istore 4, 2) := by decide +kernel
theorem dX8_isRing_46 : decode cX8_isRing 46 = .ok (.iload 4, 2) := by decide +kernel
theorem dX8_isRing_48 : decode cX8_isRing 48 = .ok (.ifCond .eq 43, 3) := by decide +kernel
theorem dX8_isRing_51 : decode cX8_isRing 51 = .ok (.aload_n 0, 1) := by decide +kernel
theorem dX8_isRing_52 : decode cX8_isRing 52 = .ok (.iload_n 1, 1) := by decide +kernel
theorem dX8_isRing_53 : decode cX8_isRing 53 = .ok (.invokevirtual 180, 3) := by decide +kernel
theorem dX8_isRing_56 : decode cX8_isRing 56 = .ok (.iload_n 2, 1) := by decide +kernel
theorem dX8_isRing_57 : decode cX8_isRing 57 = .ok (.invokestatic 256, 3) := by decide +kernel
theorem dX8_isRing_60 : decode cX8_isRing 60 = .ok (.ifCond .eq 31, 3) := by decide +kernel
theorem dX8_isRing_63 : decode cX8_isRing 63 = .ok (.aload_n 0, 1) := by decide +kernel
theorem dX8_isRing_64 : decode cX8_isRing 64 = .ok (.iload_n 2, 1) := by decide +kernel
theorem dX8_isRing_65 : decode cX8_isRing 65 = .ok (.invokevirtual 180, 3) := by decide +kernel
theorem dX8_isRing_68 : decode cX8_isRing 68 = .ok (.iload_n 3, 1) := by decide +kernel
theorem dX8_isRing_69 : decode cX8_isRing 69 = .ok (.invokestatic 256, 3) := by decide +kernel
theorem dX8_isRing_72 : decode cX8_isRing 72 = .ok (.ifCond .eq 19, 3) := by decide +kernel
theorem dX8_isRing_75 : decode cX8_isRing 75 = .ok (.aload_n 0, 1) := by decide +kernel
theorem dX8_isRing_76 : decode cX8_isRing 76 = .ok (.iload_n 3, 1) := by decide +kernel
theorem dX8_isRing_77 : decode cX8_isRing 77 = .ok (.invokevirtual 180, 3) := by decide +kernel
theorem dX8_isRing_80 : decode cX8_isRing 80 = .ok (.iload_n 1, 1) := by decide +kernel
theorem dX8_isRing_81 : decode cX8_isRing 81 = .ok (.invokestatic 256, 3) := by decide +kernel
theorem dX8_isRing_84 : decode cX8_isRing 84 = .ok (.ifCond .eq 7, 3) := by decide +kernel
theorem dX8_isRing_87 : decode cX8_isRing 87 = .ok (.iconst 1, 1) := by decide +kernel
theorem dX8_isRing_88 : decode cX8_isRing 88 = .ok (.goto 4, 3) := by decide +kernel
theorem dX8_isRing_91 : decode cX8_isRing 91 = .ok (.iconst 0, 1) := by decide +kernel
theorem dX8_isRing_92 : decode cX8_isRing 92 = .ok (.ireturn, 1) := by decide +kernel
theorem dX8_rings_0 : decode cX8_rings 0 = .ok (.iconst 0, 1) := by decide +kernel
theorem dX8_rings_1 : decode cX8_rings 1 = .ok (.istore_n 2, 1) := by decide +kernel
theorem dX8_rings_2 : decode cX8_rings 2 = .ok (.iconst 0, 1) := by decide +kernel
theorem dX8_rings_3 : decode cX8_rings 3 = .ok (.istore_n 3, 1) := by decide +kernel
theorem dX8_rings_4 : decode cX8_rings 4 = .ok (.iload_n 3, 1) := by decide +kernel
theorem dX8_rings_5 : decode cX8_rings 5 = .ok (.sipush 216, 3) := by decide +kernel
theorem dX8_rings_8 : decode cX8_rings 8 = .ok (.if_icmp .ge 66, 3) := by decide +kernel
theorem dX8_rings_11 : decode cX8_rings 11 = .ok (.iload_n 3, 1) := by decide +kernel
theorem dX8_rings_12 : decode cX8_rings 12 = .ok (.bipush 36, 2) := by decide +kernel
theorem dX8_rings_14 : decode cX8_rings 14 = .ok (.idiv, 1) := by decide +kernel
theorem dX8_rings_15 : decode cX8_rings 15 = .ok (.istore 4, 2) := by decide +kernel
theorem dX8_rings_17 : decode cX8_rings 17 = .ok (.iload_n 3, 1) := by decide +kernel
theorem dX8_rings_18 : decode cX8_rings 18 = .ok (.bipush 6, 2) := by decide +kernel
theorem dX8_rings_20 : decode cX8_rings 20 = .ok (.idiv, 1) := by decide +kernel
theorem dX8_rings_21 : decode cX8_rings 21 = .ok (.bipush 6, 2) := by decide +kernel
theorem dX8_rings_23 : decode cX8_rings 23 = .ok (.irem, 1) := by decide +kernel
theorem dX8_rings_24 : decode cX8_rings 24 = .ok (.istore 5, 2) := by decide +kernel
theorem dX8_rings_26 : decode cX8_rings 26 = .ok (.iload_n 3, 1) := by decide +kernel
theorem dX8_rings_27 : decode cX8_rings 27 = .ok (.bipush 6, 2) := by decide +kernel
theorem dX8_rings_29 : decode cX8_rings 29 = .ok (.irem, 1) := by decide +kernel
theorem dX8_rings_30 : decode cX8_rings 30 = .ok (.istore 6, 2) := by decide +kernel
theorem dX8_rings_32 : decode cX8_rings 32 = .ok (.aload_n 0, 1) := by decide +kernel
theorem dX8_rings_33 : decode cX8_rings 33 = .ok (.iload 4, 2) := by decide +kernel
theorem dX8_rings_35 : decode cX8_rings 35 = .ok (.iload 5, 2) := by decide +kernel
theorem dX8_rings_37 : decode cX8_rings 37 = .ok (.iload 6, 2) := by decide +kernel
theorem dX8_rings_39 : decode cX8_rings 39 = .ok (.invokevirtual 277, 3) := by decide +kernel
theorem dX8_rings_42 : decode cX8_rings 42 = .ok (.ifCond .eq 26, 3) := by decide +kernel
theorem dX8_rings_45 : decode cX8_rings 45 = .ok (.iload_n 2, 1) := by decide +kernel
theorem dX8_rings_46 : decode cX8_rings 46 = .ok (.iload_n 1, 1) := by decide +kernel
theorem dX8_rings_47 : decode cX8_rings 47 = .ok (.if_icmp .ne 18, 3) := by decide +kernel
theorem dX8_rings_50 : decode cX8_rings 50 = .ok (.bipush 100, 2) := by decide +kernel
theorem dX8_rings_52 : decode cX8_rings 52 = .ok (.iload 4, 2) := by decide +kernel
theorem dX8_rings_54 : decode cX8_rings 54 = .ok (.imul, 1) := by decide +kernel
theorem dX8_rings_55 : decode cX8_rings 55 = .ok (.bipush 10, 2) := by decide +kernel
theorem dX8_rings_57 : decode cX8_rings 57 = .ok (.iload 5, 2) := by decide +kernel
theorem dX8_rings_59 : decode cX8_rings 59 = .ok (.imul, 1) := by decide +kernel
theorem dX8_rings_60 : decode cX8_rings 60 = .ok (.iadd, 1) := by decide +kernel
theorem dX8_rings_61 : decode cX8_rings 61 = .ok (.iload 6, 2) := by decide +kernel
theorem dX8_rings_63 : decode cX8_rings 63 = .ok (.iadd, 1) := by decide +kernel
theorem dX8_rings_64 : decode cX8_rings 64 = .ok (.ireturn, 1) := by decide +kernel
theorem dX8_rings_65 : decode cX8_rings 65 = .ok (.iinc 2 1, 3) := by decide +kernel
theorem dX8_rings_68 : decode cX8_rings 68 = .ok (.iinc 3 1, 3) := by decide +kernel
theorem dX8_rings_71 : decode cX8_rings 71 = .ok (.goto (-67), 3) := by decide +kernel
theorem dX8_rings_74 : decode cX8_rings 74 = .ok (.iload_n 1, 1) := by decide +kernel
theorem dX8_rings_75 : decode cX8_rings 75 = .ok (.iconst (-1), 1) := by decide +kernel
theorem dX8_rings_76 : decode cX8_rings 76 = .ok (.if_icmp .ne 7, 3) := by decide +kernel
theorem dX8_rings_79 : decode cX8_rings 79 = .ok (.iload_n 2, 1) := by decide +kernel
theorem dX8_rings_80 : decode cX8_rings 80 = .ok (.goto 4, 3) := by decide +kernel
theorem dX8_rings_83 : decode cX8_rings 83 = .ok (.iconst (-1), 1) := by decide +kernel
theorem dX8_rings_84 : decode cX8_rings 84 = .ok (.ireturn, 1) := by decide +kernel
theorem dX8_drawsBy_0 : decode cX8_drawsBy 0 = .ok (.iconst 0, 1) := by decide +kernel
theorem dX8_drawsBy_1 : decode cX8_drawsBy 1 = .ok (.istore_n 3, 1) := by decide +kernel
theorem dX8_drawsBy_2 : decode cX8_drawsBy 2 = .ok (.iload_n 3, 1) := by decide +kernel
theorem dX8_drawsBy_3 : decode cX8_drawsBy 3 = .ok (.bipush 6, 2) := by decide +kernel
theorem dX8_drawsBy_5 : decode cX8_drawsBy 5 = .ok (.if_icmp .ge 24, 3) := by decide +kernel
theorem dX8_drawsBy_8 : decode cX8_drawsBy 8 = .ok (.aload_n 0, 1) := by decide +kernel
theorem dX8_drawsBy_9 : decode cX8_drawsBy 9 = .ok (.getfield 41, 3) := by decide +kernel
theorem dX8_drawsBy_12 : decode cX8_drawsBy 12 = .ok (.iload_n 3, 1) := by decide +kernel
theorem dX8_drawsBy_13 : decode cX8_drawsBy 13 = .ok (.aload_n 0, 1) := by decide +kernel
theorem dX8_drawsBy_14 : decode cX8_drawsBy 14 = .ok (.getfield 16, 3) := by decide +kernel
theorem dX8_drawsBy_17 : decode cX8_drawsBy 17 = .ok (.bipush 13, 2) := by decide +kernel
theorem dX8_drawsBy_19 : decode cX8_drawsBy 19 = .ok (.iload_n 3, 1) := by decide +kernel
theorem dX8_drawsBy_20 : decode cX8_drawsBy 20 = .ok (.iadd, 1) := by decide +kernel
theorem dX8_drawsBy_21 : decode cX8_drawsBy 21 = .ok (.iaload, 1) := by decide +kernel
theorem dX8_drawsBy_22 : decode cX8_drawsBy 22 = .ok (.iastore, 1) := by decide +kernel
theorem dX8_drawsBy_23 : decode cX8_drawsBy 23 = .ok (.iinc 3 1, 3) := by decide +kernel
theorem dX8_drawsBy_26 : decode cX8_drawsBy 26 = .ok (.goto (-24), 3) := by decide +kernel
theorem dX8_drawsBy_29 : decode cX8_drawsBy 29 = .ok (.iconst 0, 1) := by decide +kernel
theorem dX8_drawsBy_30 : decode cX8_drawsBy 30 = .ok (.istore_n 3, 1) := by decide +kernel
theorem dX8_drawsBy_31 : decode cX8_drawsBy 31 = .ok (.iload_n 1, 1) := by decide +kernel
theorem dX8_drawsBy_32 : decode cX8_drawsBy 32 = .ok (.istore 4, 2) := by decide +kernel
theorem dX8_drawsBy_34 : decode cX8_drawsBy 34 = .ok (.iload_n 2, 1) := by decide +kernel
theorem dX8_drawsBy_35 : decode cX8_drawsBy 35 = .ok (.iconst 1, 1) := by decide +kernel
theorem dX8_drawsBy_36 : decode cX8_drawsBy 36 = .ok (.isub, 1) := by decide +kernel
theorem dX8_drawsBy_37 : decode cX8_drawsBy 37 = .ok (.istore 5, 2) := by decide +kernel
theorem dX8_drawsBy_39 : decode cX8_drawsBy 39 = .ok (.iload 5, 2) := by decide +kernel
theorem dX8_drawsBy_41 : decode cX8_drawsBy 41 = .ok (.ifCond .lt 79, 3) := by decide +kernel
theorem dX8_drawsBy_44 : decode cX8_drawsBy 44 = .ok (.iload 4, 2) := by decide +kernel
theorem dX8_drawsBy_46 : decode cX8_drawsBy 46 = .ok (.bipush 6, 2) := by decide +kernel
theorem dX8_drawsBy_48 : decode cX8_drawsBy 48 = .ok (.irem, 1) := by decide +kernel
theorem dX8_drawsBy_49 : decode cX8_drawsBy 49 = .ok (.istore 6, 2) := by decide +kernel
theorem dX8_drawsBy_51 : decode cX8_drawsBy 51 = .ok (.iload 4, 2) := by decide +kernel
theorem dX8_drawsBy_53 : decode cX8_drawsBy 53 = .ok (.bipush 6, 2) := by decide +kernel
theorem dX8_drawsBy_55 : decode cX8_drawsBy 55 = .ok (.idiv, 1) := by decide +kernel
theorem dX8_drawsBy_56 : decode cX8_drawsBy 56 = .ok (.istore 4, 2) := by decide +kernel
theorem dX8_drawsBy_58 : decode cX8_drawsBy 58 = .ok (.iload 6, 2) := by decide +kernel
theorem dX8_drawsBy_60 : decode cX8_drawsBy 60 = .ok (.aload_n 0, 1) := by decide +kernel
theorem dX8_drawsBy_61 : decode cX8_drawsBy 61 = .ok (.getfield 75, 3) := by decide +kernel
theorem dX8_drawsBy_64 : decode cX8_drawsBy 64 = .ok (.if_icmp .ge 25, 3) := by decide +kernel
theorem dX8_drawsBy_67 : decode cX8_drawsBy 67 = .ok (.aload_n 0, 1) := by decide +kernel
theorem dX8_drawsBy_68 : decode cX8_drawsBy 68 = .ok (.getfield 16, 3) := by decide +kernel
theorem dX8_drawsBy_71 : decode cX8_drawsBy 71 = .ok (.bipush 13, 2) := by decide +kernel
theorem dX8_drawsBy_73 : decode cX8_drawsBy 73 = .ok (.iload 6, 2) := by decide +kernel
theorem dX8_drawsBy_75 : decode cX8_drawsBy 75 = .ok (.iadd, 1) := by decide +kernel
theorem dX8_drawsBy_76 : decode cX8_drawsBy 76 = .ok (.iaload, 1) := by decide +kernel
theorem dX8_drawsBy_77 : decode cX8_drawsBy 77 = .ok (.ifCond .ge 12, 3) := by decide +kernel
theorem dX8_drawsBy_80 : decode cX8_drawsBy 80 = .ok (.iload_n 3, 1) := by decide +kernel
theorem dX8_drawsBy_81 : decode cX8_drawsBy 81 = .ok (.iload 6, 2) := by decide +kernel
theorem dX8_drawsBy_83 : decode cX8_drawsBy 83 = .ok (.invokestatic 256, 3) := by decide +kernel
theorem dX8_drawsBy_86 : decode cX8_drawsBy 86 = .ok (.ifCond .eq 5, 3) := by decide +kernel
theorem dX8_drawsBy_89 : decode cX8_drawsBy 89 = .ok (.iconst 0, 1) := by decide +kernel
theorem dX8_drawsBy_90 : decode cX8_drawsBy 90 = .ok (.ireturn, 1) := by decide +kernel
theorem dX8_drawsBy_91 : decode cX8_drawsBy 91 = .ok (.iload_n 3, 1) := by decide +kernel
theorem dX8_drawsBy_92 : decode cX8_drawsBy 92 = .ok (.iconst 1, 1) := by decide +kernel
theorem dX8_drawsBy_93 : decode cX8_drawsBy 93 = .ok (.iload 6, 2) := by decide +kernel
theorem dX8_drawsBy_95 : decode cX8_drawsBy 95 = .ok (.ishl, 1) := by decide +kernel
theorem dX8_drawsBy_96 : decode cX8_drawsBy 96 = .ok (.ior, 1) := by decide +kernel
theorem dX8_drawsBy_97 : decode cX8_drawsBy 97 = .ok (.istore_n 3, 1) := by decide +kernel
theorem dX8_drawsBy_98 : decode cX8_drawsBy 98 = .ok (.aload_n 0, 1) := by decide +kernel
theorem dX8_drawsBy_99 : decode cX8_drawsBy 99 = .ok (.getfield 41, 3) := by decide +kernel
theorem dX8_drawsBy_102 : decode cX8_drawsBy 102 = .ok (.iload 6, 2) := by decide +kernel
theorem dX8_drawsBy_104 : decode cX8_drawsBy 104 = .ok (.aload_n 0, 1) := by decide +kernel
theorem dX8_drawsBy_105 : decode cX8_drawsBy 105 = .ok (.getfield 16, 3) := by decide +kernel
theorem dX8_drawsBy_108 : decode cX8_drawsBy 108 = .ok (.iconst 0, 1) := by decide +kernel
theorem dX8_drawsBy_109 : decode cX8_drawsBy 109 = .ok (.iload 5, 2) := by decide +kernel
theorem dX8_drawsBy_111 : decode cX8_drawsBy 111 = .ok (.iadd, 1) := by decide +kernel
theorem dX8_drawsBy_112 : decode cX8_drawsBy 112 = .ok (.iaload, 1) := by decide +kernel
theorem dX8_drawsBy_113 : decode cX8_drawsBy 113 = .ok (.iastore, 1) := by decide +kernel
theorem dX8_drawsBy_114 : decode cX8_drawsBy 114 = .ok (.iinc 5 (-1), 3) := by decide +kernel
theorem dX8_drawsBy_117 : decode cX8_drawsBy 117 = .ok (.goto (-78), 3) := by decide +kernel
theorem dX8_drawsBy_120 : decode cX8_drawsBy 120 = .ok (.iconst 1, 1) := by decide +kernel
theorem dX8_drawsBy_121 : decode cX8_drawsBy 121 = .ok (.ireturn, 1) := by decide +kernel
theorem dX8_allBeat_0 : decode cX8_allBeat 0 = .ok (.iconst 1, 1) := by decide +kernel
theorem dX8_allBeat_1 : decode cX8_allBeat 1 = .ok (.istore_n 2, 1) := by decide +kernel
theorem dX8_allBeat_2 : decode cX8_allBeat 2 = .ok (.iconst 0, 1) := by decide +kernel
theorem dX8_allBeat_3 : decode cX8_allBeat 3 = .ok (.istore_n 3, 1) := by decide +kernel
theorem dX8_allBeat_4 : decode cX8_allBeat 4 = .ok (.iload_n 3, 1) := by decide +kernel
theorem dX8_allBeat_5 : decode cX8_allBeat 5 = .ok (.aload_n 0, 1) := by decide +kernel
theorem dX8_allBeat_6 : decode cX8_allBeat 6 = .ok (.getfield 75, 3) := by decide +kernel
theorem dX8_allBeat_9 : decode cX8_allBeat 9 = .ok (.if_icmp .ge 74, 3) := by decide +kernel
theorem dX8_allBeat_12 : decode cX8_allBeat 12 = .ok (.iconst 0, 1) := by decide +kernel
theorem dX8_allBeat_13 : decode cX8_allBeat 13 = .ok (.istore 4, 2) := by decide +kernel
theorem dX8_allBeat_15 : decode cX8_allBeat 15 = .ok (.iload 4, 2) := by decide +kernel
theorem dX8_allBeat_17 : decode cX8_allBeat 17 = .ok (.aload_n 0, 1) := by decide +kernel
theorem dX8_allBeat_18 : decode cX8_allBeat 18 = .ok (.getfield 75, 3) := by decide +kernel
theorem dX8_allBeat_21 : decode cX8_allBeat 21 = .ok (.if_icmp .ge 56, 3) := by decide +kernel
theorem dX8_allBeat_24 : decode cX8_allBeat 24 = .ok (.iload_n 2, 1) := by decide +kernel
theorem dX8_allBeat_25 : decode cX8_allBeat 25 = .ok (.ifCond .eq 52, 3) := by decide +kernel
theorem dX8_allBeat_28 : decode cX8_allBeat 28 = .ok (.iload_n 1, 1) := by decide +kernel
theorem dX8_allBeat_29 : decode cX8_allBeat 29 = .ok (.iload_n 3, 1) := by decide +kernel
theorem dX8_allBeat_30 : decode cX8_allBeat 30 = .ok (.invokestatic 256, 3) := by decide +kernel
theorem dX8_allBeat_33 : decode cX8_allBeat 33 = .ok (.ifCond .eq 32, 3) := by decide +kernel
theorem dX8_allBeat_36 : decode cX8_allBeat 36 = .ok (.iload_n 1, 1) := by decide +kernel
theorem dX8_allBeat_37 : decode cX8_allBeat 37 = .ok (.iload 4, 2) := by decide +kernel
theorem dX8_allBeat_39 : decode cX8_allBeat 39 = .ok (.invokestatic 256, 3) := by decide +kernel
theorem dX8_allBeat_42 : decode cX8_allBeat 42 = .ok (.ifCond .ne 23, 3) := by decide +kernel
theorem dX8_allBeat_45 : decode cX8_allBeat 45 = .ok (.aload_n 0, 1) := by decide +kernel
theorem dX8_allBeat_46 : decode cX8_allBeat 46 = .ok (.aload_n 0, 1) := by decide +kernel
theorem dX8_allBeat_47 : decode cX8_allBeat 47 = .ok (.getfield 41, 3) := by decide +kernel
theorem dX8_allBeat_50 : decode cX8_allBeat 50 = .ok (.iload_n 3, 1) := by decide +kernel
theorem dX8_allBeat_51 : decode cX8_allBeat 51 = .ok (.iaload, 1) := by decide +kernel
theorem dX8_allBeat_52 : decode cX8_allBeat 52 = .ok (.aload_n 0, 1) := by decide +kernel
theorem dX8_allBeat_53 : decode cX8_allBeat 53 = .ok (.getfield 41, 3) := by decide +kernel
theorem dX8_allBeat_56 : decode cX8_allBeat 56 = .ok (.iload 4, 2) := by decide +kernel
theorem dX8_allBeat_58 : decode cX8_allBeat 58 = .ok (.iaload, 1) := by decide +kernel
theorem dX8_allBeat_59 : decode cX8_allBeat 59 = .ok (.invokevirtual 177, 3) := by decide +kernel
theorem dX8_allBeat_62 : decode cX8_allBeat 62 = .ok (.ifCond .ne 7, 3) := by decide +kernel
theorem dX8_allBeat_65 : decode cX8_allBeat 65 = .ok (.iconst 1, 1) := by decide +kernel
theorem dX8_allBeat_66 : decode cX8_allBeat 66 = .ok (.goto 4, 3) := by decide +kernel
theorem dX8_allBeat_69 : decode cX8_allBeat 69 = .ok (.iconst 0, 1) := by decide +kernel
theorem dX8_allBeat_70 : decode cX8_allBeat 70 = .ok (.istore_n 2, 1) := by decide +kernel
theorem dX8_allBeat_71 : decode cX8_allBeat 71 = .ok (.iinc 4 1, 3) := by decide +kernel
theorem dX8_allBeat_74 : decode cX8_allBeat 74 = .ok (.goto (-59), 3) := by decide +kernel
theorem dX8_allBeat_77 : decode cX8_allBeat 77 = .ok (.iinc 3 1, 3) := by decide +kernel
theorem dX8_allBeat_80 : decode cX8_allBeat 80 = .ok (.goto (-76), 3) := by decide +kernel
theorem dX8_allBeat_83 : decode cX8_allBeat 83 = .ok (.iload_n 2, 1) := by decide +kernel
theorem dX8_allBeat_84 : decode cX8_allBeat 84 = .ok (.ireturn, 1) := by decide +kernel
theorem dX8_power_0 : decode cX8_power 0 = .ok (.iconst 1, 1) := by decide +kernel
theorem dX8_power_1 : decode cX8_power 1 = .ok (.istore_n 2, 1) := by decide +kernel
theorem dX8_power_2 : decode cX8_power 2 = .ok (.iconst 0, 1) := by decide +kernel
theorem dX8_power_3 : decode cX8_power 3 = .ok (.istore_n 3, 1) := by decide +kernel
theorem dX8_power_4 : decode cX8_power 4 = .ok (.iload_n 3, 1) := by decide +kernel
theorem dX8_power_5 : decode cX8_power 5 = .ok (.iload_n 1, 1) := by decide +kernel
theorem dX8_power_6 : decode cX8_power 6 = .ok (.if_icmp .ge 13, 3) := by decide +kernel
theorem dX8_power_9 : decode cX8_power 9 = .ok (.iload_n 2, 1) := by decide +kernel
theorem dX8_power_10 : decode cX8_power 10 = .ok (.iload_n 0, 1) := by decide +kernel
theorem dX8_power_11 : decode cX8_power 11 = .ok (.imul, 1) := by decide +kernel
theorem dX8_power_12 : decode cX8_power 12 = .ok (.istore_n 2, 1) := by decide +kernel
theorem dX8_power_13 : decode cX8_power 13 = .ok (.iinc 3 1, 3) := by decide +kernel
theorem dX8_power_16 : decode cX8_power 16 = .ok (.goto (-12), 3) := by decide +kernel
theorem dX8_power_19 : decode cX8_power 19 = .ok (.iload_n 2, 1) := by decide +kernel
theorem dX8_power_20 : decode cX8_power 20 = .ok (.ireturn, 1) := by decide +kernel
theorem dX8_order_0 : decode cX8_order 0 = .ok (.iload_n 1, 1) := by decide +kernel
theorem dX8_order_1 : decode cX8_order 1 = .ok (.i2l, 1) := by decide +kernel
theorem dX8_order_2 : decode cX8_order 2 = .ok (.lconst 0, 1) := by decide +kernel
theorem dX8_order_3 : decode cX8_order 3 = .ok (.iconst 1, 1) := by decide +kernel
theorem dX8_order_4 : decode cX8_order 4 = .ok (.aload_n 0, 1) := by decide +kernel
theorem dX8_order_5 : decode cX8_order 5 = .ok (.getfield 75, 3) := by decide +kernel
theorem dX8_order_8 : decode cX8_order 8 = .ok (.ishl, 1) := by decide +kernel
theorem dX8_order_9 : decode cX8_order 9 = .ok (.iconst 1, 1) := by decide +kernel
theorem dX8_order_10 : decode cX8_order 10 = .ok (.isub, 1) := by decide +kernel
theorem dX8_order_11 : decode cX8_order 11 = .ok (.i2l, 1) := by decide +kernel
theorem dX8_order_12 : decode cX8_order 12 = .ok (.invokestatic 78, 3) := by decide +kernel
theorem dX8_order_15 : decode cX8_order 15 = .ok (.ifCond .ne 6, 3) := by decide +kernel
theorem dX8_order_18 : decode cX8_order 18 = .ok (.ldc 209, 2) := by decide +kernel
theorem dX8_order_20 : decode cX8_order 20 = .ok (.ireturn, 1) := by decide +kernel
theorem dX8_order_21 : decode cX8_order 21 = .ok (.aload_n 0, 1) := by decide +kernel
theorem dX8_order_22 : decode cX8_order 22 = .ok (.getfield 75, 3) := by decide +kernel
theorem dX8_order_25 : decode cX8_order 25 = .ok (.aload_n 0, 1) := by decide +kernel
theorem dX8_order_26 : decode cX8_order 26 = .ok (.invokevirtual 197, 3) := by decide +kernel
theorem dX8_order_29 : decode cX8_order 29 = .ok (.invokestatic 184, 3) := by decide +kernel
theorem dX8_order_32 : decode cX8_order 32 = .ok (.isub, 1) := by decide +kernel
theorem dX8_order_33 : decode cX8_order 33 = .ok (.istore_n 2, 1) := by decide +kernel
theorem dX8_order_34 : decode cX8_order 34 = .ok (.iload_n 2, 1) := by decide +kernel
theorem dX8_order_35 : decode cX8_order 35 = .ok (.aload_n 0, 1) := by decide +kernel
theorem dX8_order_36 : decode cX8_order 36 = .ok (.getfield 16, 3) := by decide +kernel
theorem dX8_order_39 : decode cX8_order 39 = .ok (.bipush 12, 2) := by decide +kernel
theorem dX8_order_41 : decode cX8_order 41 = .ok (.iaload, 1) := by decide +kernel
theorem dX8_order_42 : decode cX8_order 42 = .ok (.if_icmp .ge 7, 3) := by decide +kernel
theorem dX8_order_45 : decode cX8_order 45 = .ok (.iload_n 2, 1) := by decide +kernel
theorem dX8_order_46 : decode cX8_order 46 = .ok (.goto 10, 3) := by decide +kernel
theorem dX8_order_49 : decode cX8_order 49 = .ok (.aload_n 0, 1) := by decide +kernel
theorem dX8_order_50 : decode cX8_order 50 = .ok (.getfield 16, 3) := by decide +kernel
theorem dX8_order_53 : decode cX8_order 53 = .ok (.bipush 12, 2) := by decide +kernel
theorem dX8_order_55 : decode cX8_order 55 = .ok (.iaload, 1) := by decide +kernel
theorem dX8_order_56 : decode cX8_order 56 = .ok (.istore_n 2, 1) := by decide +kernel
theorem dX8_order_57 : decode cX8_order 57 = .ok (.iconst 0, 1) := by decide +kernel
theorem dX8_order_58 : decode cX8_order 58 = .ok (.istore_n 3, 1) := by decide +kernel
theorem dX8_order_59 : decode cX8_order 59 = .ok (.iload_n 3, 1) := by decide +kernel
theorem dX8_order_60 : decode cX8_order 60 = .ok (.bipush 6, 2) := by decide +kernel
theorem dX8_order_62 : decode cX8_order 62 = .ok (.iload_n 2, 1) := by decide +kernel
theorem dX8_order_63 : decode cX8_order 63 = .ok (.invokestatic 281, 3) := by decide +kernel
theorem dX8_order_66 : decode cX8_order 66 = .ok (.if_icmp .ge 73, 3) := by decide +kernel
theorem dX8_order_69 : decode cX8_order 69 = .ok (.aload_n 0, 1) := by decide +kernel
theorem dX8_order_70 : decode cX8_order 70 = .ok (.iload_n 3, 1) := by decide +kernel
theorem dX8_order_71 : decode cX8_order 71 = .ok (.iload_n 2, 1) := by decide +kernel
theorem dX8_order_72 : decode cX8_order 72 = .ok (.invokevirtual 284, 3) := by decide +kernel
theorem dX8_order_75 : decode cX8_order 75 = .ok (.ifCond .eq 58, 3) := by decide +kernel
theorem dX8_order_78 : decode cX8_order 78 = .ok (.aload_n 0, 1) := by decide +kernel
theorem dX8_order_79 : decode cX8_order 79 = .ok (.iload_n 1, 1) := by decide +kernel
theorem dX8_order_80 : decode cX8_order 80 = .ok (.invokevirtual 287, 3) := by decide +kernel
theorem dX8_order_83 : decode cX8_order 83 = .ok (.ifCond .eq 50, 3) := by decide +kernel
theorem dX8_order_86 : decode cX8_order 86 = .ok (.iconst 0, 1) := by decide +kernel
theorem dX8_order_87 : decode cX8_order 87 = .ok (.istore 4, 2) := by decide +kernel
theorem dX8_order_89 : decode cX8_order 89 = .ok (.iconst 0, 1) := by decide +kernel
theorem dX8_order_90 : decode cX8_order 90 = .ok (.istore 5, 2) := by decide +kernel
theorem dX8_order_92 : decode cX8_order 92 = .ok (.iload 5, 2) := by decide +kernel
theorem dX8_order_94 : decode cX8_order 94 = .ok (.iload_n 2, 1) := by decide +kernel
theorem dX8_order_95 : decode cX8_order 95 = .ok (.if_icmp .ge 35, 3) := by decide +kernel
theorem dX8_order_98 : decode cX8_order 98 = .ok (.bipush 10, 2) := by decide +kernel
theorem dX8_order_100 : decode cX8_order 100 = .ok (.iload 4, 2) := by decide +kernel
theorem dX8_order_102 : decode cX8_order 102 = .ok (.imul, 1) := by decide +kernel
theorem dX8_order_103 : decode cX8_order 103 = .ok (.iload_n 3, 1) := by decide +kernel
theorem dX8_order_104 : decode cX8_order 104 = .ok (.bipush 6, 2) := by decide +kernel
theorem dX8_order_106 : decode cX8_order 106 = .ok (.iload_n 2, 1) := by decide +kernel
theorem dX8_order_107 : decode cX8_order 107 = .ok (.iconst 1, 1) := by decide +kernel
theorem dX8_order_108 : decode cX8_order 108 = .ok (.isub, 1) := by decide +kernel
theorem dX8_order_109 : decode cX8_order 109 = .ok (.iload 5, 2) := by decide +kernel
theorem dX8_order_111 : decode cX8_order 111 = .ok (.isub, 1) := by decide +kernel
theorem dX8_order_112 : decode cX8_order 112 = .ok (.invokestatic 281, 3) := by decide +kernel
theorem dX8_order_115 : decode cX8_order 115 = .ok (.idiv, 1) := by decide +kernel
theorem dX8_order_116 : decode cX8_order 116 = .ok (.bipush 6, 2) := by decide +kernel
theorem dX8_order_118 : decode cX8_order 118 = .ok (.irem, 1) := by decide +kernel
theorem dX8_order_119 : decode cX8_order 119 = .ok (.iadd, 1) := by decide +kernel
theorem dX8_order_120 : decode cX8_order 120 = .ok (.iconst 1, 1) := by decide +kernel
theorem dX8_order_121 : decode cX8_order 121 = .ok (.iadd, 1) := by decide +kernel
theorem dX8_order_122 : decode cX8_order 122 = .ok (.istore 4, 2) := by decide +kernel
theorem dX8_order_124 : decode cX8_order 124 = .ok (.iinc 5 1, 3) := by decide +kernel
theorem dX8_order_127 : decode cX8_order 127 = .ok (.goto (-35), 3) := by decide +kernel
theorem dX8_order_130 : decode cX8_order 130 = .ok (.iload 4, 2) := by decide +kernel
theorem dX8_order_132 : decode cX8_order 132 = .ok (.ireturn, 1) := by decide +kernel
theorem dX8_order_133 : decode cX8_order 133 = .ok (.iinc 3 1, 3) := by decide +kernel
theorem dX8_order_136 : decode cX8_order 136 = .ok (.goto (-77), 3) := by decide +kernel
theorem dX8_order_139 : decode cX8_order 139 = .ok (.iconst (-1), 1) := by decide +kernel
theorem dX8_order_140 : decode cX8_order 140 = .ok (.ireturn, 1) := by decide +kernel
theorem dX8_findAway_0 : decode cX8_findAway 0 = .ok (.iconst 0, 1) := by decide +kernel
theorem dX8_findAway_1 : decode cX8_findAway 1 = .ok (.istore_n 3, 1) := by decide +kernel
theorem dX8_findAway_2 : decode cX8_findAway 2 = .ok (.iload_n 3, 1) := by decide +kernel
theorem dX8_findAway_3 : decode cX8_findAway 3 = .ok (.bipush 12, 2) := by decide +kernel
theorem dX8_findAway_5 : decode cX8_findAway 5 = .ok (.if_icmp .ge 26, 3) := by decide +kernel
theorem dX8_findAway_8 : decode cX8_findAway 8 = .ok (.aload_n 0, 1) := by decide +kernel
theorem dX8_findAway_9 : decode cX8_findAway 9 = .ok (.getfield 44, 3) := by decide +kernel
theorem dX8_findAway_12 : decode cX8_findAway 12 = .ok (.iload_n 3, 1) := by decide +kernel
theorem dX8_findAway_13 : decode cX8_findAway 13 = .ok (.iload_n 3, 1) := by decide +kernel
theorem dX8_findAway_14 : decode cX8_findAway 14 = .ok (.iload_n 1, 1) := by decide +kernel
theorem dX8_findAway_15 : decode cX8_findAway 15 = .ok (.if_icmp .ne 7, 3) := by decide +kernel
theorem dX8_findAway_18 : decode cX8_findAway 18 = .ok (.iconst 0, 1) := by decide +kernel
theorem dX8_findAway_19 : decode cX8_findAway 19 = .ok (.goto 5, 3) := by decide +kernel
theorem dX8_findAway_22 : decode cX8_findAway 22 = .ok (.bipush 99, 2) := by decide +kernel
theorem dX8_findAway_24 : decode cX8_findAway 24 = .ok (.iastore, 1) := by decide +kernel
theorem dX8_findAway_25 : decode cX8_findAway 25 = .ok (.iinc 3 1, 3) := by decide +kernel
theorem dX8_findAway_28 : decode cX8_findAway 28 = .ok (.goto (-26), 3) := by decide +kernel
theorem dX8_findAway_31 : decode cX8_findAway 31 = .ok (.iconst 1, 1) := by decide +kernel
theorem dX8_findAway_32 : decode cX8_findAway 32 = .ok (.istore_n 3, 1) := by decide +kernel
theorem dX8_findAway_33 : decode cX8_findAway 33 = .ok (.iload_n 3, 1) := by decide +kernel
theorem dX8_findAway_34 : decode cX8_findAway 34 = .ok (.bipush 11, 2) := by decide +kernel
theorem dX8_findAway_36 : decode cX8_findAway 36 = .ok (.if_icmp .ge 88, 3) := by decide +kernel
theorem dX8_findAway_39 : decode cX8_findAway 39 = .ok (.iconst 0, 1) := by decide +kernel
theorem dX8_findAway_40 : decode cX8_findAway 40 = .ok (.istore 4, 2) := by decide +kernel
theorem dX8_findAway_42 : decode cX8_findAway 42 = .ok (.iload 4, 2) := by decide +kernel
theorem dX8_findAway_44 : decode cX8_findAway 44 = .ok (.iload_n 2, 1) := by decide +kernel
theorem dX8_findAway_45 : decode cX8_findAway 45 = .ok (.if_icmp .ge 73, 3) := by decide +kernel
theorem dX8_findAway_48 : decode cX8_findAway 48 = .ok (.iconst 0, 1) := by decide +kernel
theorem dX8_findAway_49 : decode cX8_findAway 49 = .ok (.istore 5, 2) := by decide +kernel
theorem dX8_findAway_51 : decode cX8_findAway 51 = .ok (.iload 5, 2) := by decide +kernel
theorem dX8_findAway_53 : decode cX8_findAway 53 = .ok (.iconst 3, 1) := by decide +kernel
theorem dX8_findAway_54 : decode cX8_findAway 54 = .ok (.if_icmp .ge 58, 3) := by decide +kernel
theorem dX8_findAway_57 : decode cX8_findAway 57 = .ok (.aload_n 0, 1) := by decide +kernel
theorem dX8_findAway_58 : decode cX8_findAway 58 = .ok (.getfield 44, 3) := by decide +kernel
theorem dX8_findAway_61 : decode cX8_findAway 61 = .ok (.iload 4, 2) := by decide +kernel
theorem dX8_findAway_63 : decode cX8_findAway 63 = .ok (.aload_n 0, 1) := by decide +kernel
theorem dX8_findAway_64 : decode cX8_findAway 64 = .ok (.getfield 44, 3) := by decide +kernel
theorem dX8_findAway_67 : decode cX8_findAway 67 = .ok (.iload 4, 2) := by decide +kernel
theorem dX8_findAway_69 : decode cX8_findAway 69 = .ok (.iaload, 1) := by decide +kernel
theorem dX8_findAway_70 : decode cX8_findAway 70 = .ok (.bipush 99, 2) := by decide +kernel
theorem dX8_findAway_72 : decode cX8_findAway 72 = .ok (.if_icmp .ne 26, 3) := by decide +kernel
theorem dX8_findAway_75 : decode cX8_findAway 75 = .ok (.aload_n 0, 1) := by decide +kernel
theorem dX8_findAway_76 : decode cX8_findAway 76 = .ok (.getfield 44, 3) := by decide +kernel
theorem dX8_findAway_79 : decode cX8_findAway 79 = .ok (.iload 4, 2) := by decide +kernel
theorem dX8_findAway_81 : decode cX8_findAway 81 = .ok (.iload 5, 2) := by decide +kernel
theorem dX8_findAway_83 : decode cX8_findAway 83 = .ok (.iload_n 2, 1) := by decide +kernel
theorem dX8_findAway_84 : decode cX8_findAway 84 = .ok (.invokestatic 249, 3) := by decide +kernel
theorem dX8_findAway_87 : decode cX8_findAway 87 = .ok (.iaload, 1) := by decide +kernel
theorem dX8_findAway_88 : decode cX8_findAway 88 = .ok (.iload_n 3, 1) := by decide +kernel
theorem dX8_findAway_89 : decode cX8_findAway 89 = .ok (.iconst 1, 1) := by decide +kernel
theorem dX8_findAway_90 : decode cX8_findAway 90 = .ok (.isub, 1) := by decide +kernel
theorem dX8_findAway_91 : decode cX8_findAway 91 = .ok (.if_icmp .ne 7, 3) := by decide +kernel
theorem dX8_findAway_94 : decode cX8_findAway 94 = .ok (.iload_n 3, 1) := by decide +kernel
theorem dX8_findAway_95 : decode cX8_findAway 95 = .ok (.goto 10, 3) := by decide +kernel
theorem dX8_findAway_98 : decode cX8_findAway 98 = .ok (.aload_n 0, 1) := by decide +kernel
theorem dX8_findAway_99 : decode cX8_findAway 99 = .ok (.getfield 44, 3) := by decide +kernel
theorem dX8_findAway_102 : decode cX8_findAway 102 = .ok (.iload 4, 2) := by decide +kernel
theorem dX8_findAway_104 : decode cX8_findAway 104 = .ok (.iaload, 1) := by decide +kernel
theorem dX8_findAway_105 : decode cX8_findAway 105 = .ok (.iastore, 1) := by decide +kernel
theorem dX8_findAway_106 : decode cX8_findAway 106 = .ok (.iinc 5 1, 3) := by decide +kernel
theorem dX8_findAway_109 : decode cX8_findAway 109 = .ok (.goto (-58), 3) := by decide +kernel
theorem dX8_findAway_112 : decode cX8_findAway 112 = .ok (.iinc 4 1, 3) := by decide +kernel
theorem dX8_findAway_115 : decode cX8_findAway 115 = .ok (.goto (-73), 3) := by decide +kernel
theorem dX8_findAway_118 : decode cX8_findAway 118 = .ok (.iinc 3 1, 3) := by decide +kernel
theorem dX8_findAway_121 : decode cX8_findAway 121 = .ok (.goto (-88), 3) := by decide +kernel
theorem dX8_findAway_124 : decode cX8_findAway 124 = .ok (.return_, 1) := by decide +kernel
theorem dX8_row_0 : decode cX8_row 0 = .ok (.aload_n 0, 1) := by decide +kernel
theorem dX8_row_1 : decode cX8_row 1 = .ok (.iload_n 1, 1) := by decide +kernel
theorem dX8_row_2 : decode cX8_row 2 = .ok (.invokevirtual 206, 3) := by decide +kernel
theorem dX8_row_5 : decode cX8_row 5 = .ok (.ifCond .ne 6, 3) := by decide +kernel
theorem dX8_row_8 : decode cX8_row 8 = .ok (.ldc 209, 2) := by decide +kernel
theorem dX8_row_10 : decode cX8_row 10 = .ok (.ireturn, 1) := by decide +kernel
theorem dX8_row_11 : decode cX8_row 11 = .ok (.iload_n 2, 1) := by decide +kernel
theorem dX8_row_12 : decode cX8_row 12 = .ok (.i2l, 1) := by decide +kernel
theorem dX8_row_13 : decode cX8_row 13 = .ok (.lconst 0, 1) := by decide +kernel
theorem dX8_row_14 : decode cX8_row 14 = .ok (.ldc2_w 290, 3) := by decide +kernel
theorem dX8_row_17 : decode cX8_row 17 = .ok (.invokestatic 78, 3) := by decide +kernel
theorem dX8_row_20 : decode cX8_row 20 = .ok (.ifCond .eq 13, 3) := by decide +kernel
theorem dX8_row_23 : decode cX8_row 23 = .ok (.iload_n 3, 1) := by decide +kernel
theorem dX8_row_24 : decode cX8_row 24 = .ok (.i2l, 1) := by decide +kernel
theorem dX8_row_25 : decode cX8_row 25 = .ok (.lconst 0, 1) := by decide +kernel
theorem dX8_row_26 : decode cX8_row 26 = .ok (.lconst 1, 1) := by decide +kernel
theorem dX8_row_27 : decode cX8_row 27 = .ok (.invokestatic 78, 3) := by decide +kernel
theorem dX8_row_30 : decode cX8_row 30 = .ok (.ifCond .ne 6, 3) := by decide +kernel
theorem dX8_row_33 : decode cX8_row 33 = .ok (.ldc 91, 2) := by decide +kernel
theorem dX8_row_35 : decode cX8_row 35 = .ok (.ireturn, 1) := by decide +kernel
theorem dX8_row_36 : decode cX8_row 36 = .ok (.aload_n 0, 1) := by decide +kernel
theorem dX8_row_37 : decode cX8_row 37 = .ok (.iload_n 1, 1) := by decide +kernel
theorem dX8_row_38 : decode cX8_row 38 = .ok (.invokevirtual 210, 3) := by decide +kernel
theorem dX8_row_41 : decode cX8_row 41 = .ok (.istore 4, 2) := by decide +kernel
theorem dX8_row_43 : decode cX8_row 43 = .ok (.iload 4, 2) := by decide +kernel
theorem dX8_row_45 : decode cX8_row 45 = .ok (.ifCond .ge 6, 3) := by decide +kernel
theorem dX8_row_48 : decode cX8_row 48 = .ok (.ldc 231, 2) := by decide +kernel
theorem dX8_row_50 : decode cX8_row 50 = .ok (.ireturn, 1) := by decide +kernel
theorem dX8_row_51 : decode cX8_row 51 = .ok (.aload_n 0, 1) := by decide +kernel
theorem dX8_row_52 : decode cX8_row 52 = .ok (.getfield 16, 3) := by decide +kernel
theorem dX8_row_55 : decode cX8_row 55 = .ok (.bipush 12, 2) := by decide +kernel
theorem dX8_row_57 : decode cX8_row 57 = .ok (.iaload, 1) := by decide +kernel
theorem dX8_row_58 : decode cX8_row 58 = .ok (.istore 5, 2) := by decide +kernel
theorem dX8_row_60 : decode cX8_row 60 = .ok (.iload_n 2, 1) := by decide +kernel
theorem dX8_row_61 : decode cX8_row 61 = .ok (.iload 5, 2) := by decide +kernel
theorem dX8_row_63 : decode cX8_row 63 = .ok (.if_icmp .lt 5, 3) := by decide +kernel
theorem dX8_row_66 : decode cX8_row 66 = .ok (.iconst (-1), 1) := by decide +kernel
theorem dX8_row_67 : decode cX8_row 67 = .ok (.ireturn, 1) := by decide +kernel
theorem dX8_row_68 : decode cX8_row 68 = .ok (.aload_n 0, 1) := by decide +kernel
theorem dX8_row_69 : decode cX8_row 69 = .ok (.iload_n 2, 1) := by decide +kernel
theorem dX8_row_70 : decode cX8_row 70 = .ok (.iload 5, 2) := by decide +kernel
theorem dX8_row_72 : decode cX8_row 72 = .ok (.invokevirtual 292, 3) := by decide +kernel
theorem dX8_row_75 : decode cX8_row 75 = .ok (.aload_n 0, 1) := by decide +kernel
theorem dX8_row_76 : decode cX8_row 76 = .ok (.getfield 44, 3) := by decide +kernel
theorem dX8_row_79 : decode cX8_row 79 = .ok (.iload 4, 2) := by decide +kernel
theorem dX8_row_81 : decode cX8_row 81 = .ok (.iaload, 1) := by decide +kernel
theorem dX8_row_82 : decode cX8_row 82 = .ok (.bipush 99, 2) := by decide +kernel
theorem dX8_row_84 : decode cX8_row 84 = .ok (.if_icmp .ne 5, 3) := by decide +kernel
theorem dX8_row_87 : decode cX8_row 87 = .ok (.iconst (-1), 1) := by decide +kernel
theorem dX8_row_88 : decode cX8_row 88 = .ok (.ireturn, 1) := by decide +kernel
theorem dX8_row_89 : decode cX8_row 89 = .ok (.iload_n 3, 1) := by decide +kernel
theorem dX8_row_90 : decode cX8_row 90 = .ok (.ifCond .ne 11, 3) := by decide +kernel
theorem dX8_row_93 : decode cX8_row 93 = .ok (.aload_n 0, 1) := by decide +kernel
theorem dX8_row_94 : decode cX8_row 94 = .ok (.getfield 44, 3) := by decide +kernel
theorem dX8_row_97 : decode cX8_row 97 = .ok (.iload 4, 2) := by decide +kernel
theorem dX8_row_99 : decode cX8_row 99 = .ok (.iaload, 1) := by decide +kernel
theorem dX8_row_100 : decode cX8_row 100 = .ok (.ireturn, 1) := by decide +kernel
theorem dX8_row_101 : decode cX8_row 101 = .ok (.iconst 0, 1) := by decide +kernel
theorem dX8_row_102 : decode cX8_row 102 = .ok (.istore 6, 2) := by decide +kernel
theorem dX8_row_104 : decode cX8_row 104 = .ok (.iload 6, 2) := by decide +kernel
theorem dX8_row_106 : decode cX8_row 106 = .ok (.iconst 3, 1) := by decide +kernel
theorem dX8_row_107 : decode cX8_row 107 = .ok (.if_icmp .ge 48, 3) := by decide +kernel
theorem dX8_row_110 : decode cX8_row 110 = .ok (.aload_n 0, 1) := by decide +kernel
theorem dX8_row_111 : decode cX8_row 111 = .ok (.getfield 44, 3) := by decide +kernel
theorem dX8_row_114 : decode cX8_row 114 = .ok (.iload 4, 2) := by decide +kernel
theorem dX8_row_116 : decode cX8_row 116 = .ok (.iaload, 1) := by decide +kernel
theorem dX8_row_117 : decode cX8_row 117 = .ok (.ifCond .le 38, 3) := by decide +kernel
theorem dX8_row_120 : decode cX8_row 120 = .ok (.aload_n 0, 1) := by decide +kernel
theorem dX8_row_121 : decode cX8_row 121 = .ok (.getfield 44, 3) := by decide +kernel
theorem dX8_row_124 : decode cX8_row 124 = .ok (.iload 4, 2) := by decide +kernel
theorem dX8_row_126 : decode cX8_row 126 = .ok (.iload 6, 2) := by decide +kernel
theorem dX8_row_128 : decode cX8_row 128 = .ok (.iload 5, 2) := by decide +kernel
theorem dX8_row_130 : decode cX8_row 130 = .ok (.invokestatic 249, 3) := by decide +kernel
theorem dX8_row_133 : decode cX8_row 133 = .ok (.iaload, 1) := by decide +kernel
theorem dX8_row_134 : decode cX8_row 134 = .ok (.aload_n 0, 1) := by decide +kernel
theorem dX8_row_135 : decode cX8_row 135 = .ok (.getfield 44, 3) := by decide +kernel
theorem dX8_row_138 : decode cX8_row 138 = .ok (.iload 4, 2) := by decide +kernel
theorem dX8_row_140 : decode cX8_row 140 = .ok (.iaload, 1) := by decide +kernel
theorem dX8_row_141 : decode cX8_row 141 = .ok (.iconst 1, 1) := by decide +kernel
theorem dX8_row_142 : decode cX8_row 142 = .ok (.isub, 1) := by decide +kernel
theorem dX8_row_143 : decode cX8_row 143 = .ok (.if_icmp .ne 6, 3) := by decide +kernel
theorem dX8_row_146 : decode cX8_row 146 = .ok (.iload 6, 2) := by decide +kernel
theorem dX8_row_148 : decode cX8_row 148 = .ok (.ireturn, 1) := by decide +kernel
theorem dX8_row_149 : decode cX8_row 149 = .ok (.iinc 6 1, 3) := by decide +kernel
theorem dX8_row_152 : decode cX8_row 152 = .ok (.goto (-48), 3) := by decide +kernel
theorem dX8_row_155 : decode cX8_row 155 = .ok (.iconst (-1), 1) := by decide +kernel
theorem dX8_row_156 : decode cX8_row 156 = .ok (.ireturn, 1) := by decide +kernel
theorem dX8_greatestPart_0 : decode cX8_greatestPart 0 = .ok (.iconst 0, 1) := by decide +kernel
theorem dX8_greatestPart_1 : decode cX8_greatestPart 1 = .ok (.istore_n 1, 1) := by decide +kernel
theorem dX8_greatestPart_2 : decode cX8_greatestPart 2 = .ok (.iconst 0, 1) := by decide +kernel
theorem dX8_greatestPart_3 : decode cX8_greatestPart 3 = .ok (.istore_n 2, 1) := by decide +kernel
theorem dX8_greatestPart_4 : decode cX8_greatestPart 4 = .ok (.iload_n 2, 1) := by decide +kernel
theorem dX8_greatestPart_5 : decode cX8_greatestPart 5 = .ok (.iconst 3, 1) := by decide +kernel
theorem dX8_greatestPart_6 : decode cX8_greatestPart 6 = .ok (.if_icmp .ge 30, 3) := by decide +kernel
theorem dX8_greatestPart_9 : decode cX8_greatestPart 9 = .ok (.aload_n 0, 1) := by decide +kernel
theorem dX8_greatestPart_10 : decode cX8_greatestPart 10 = .ok (.getfield 47, 3) := by decide +kernel
theorem dX8_greatestPart_13 : decode cX8_greatestPart 13 = .ok (.iload_n 2, 1) := by decide +kernel
theorem dX8_greatestPart_14 : decode cX8_greatestPart 14 = .ok (.iaload, 1) := by decide +kernel
theorem dX8_greatestPart_15 : decode cX8_greatestPart 15 = .ok (.iload_n 1, 1) := by decide +kernel
theorem dX8_greatestPart_16 : decode cX8_greatestPart 16 = .ok (.if_icmp .le 12, 3) := by decide +kernel
theorem dX8_greatestPart_19 : decode cX8_greatestPart 19 = .ok (.aload_n 0, 1) := by decide +kernel
theorem dX8_greatestPart_20 : decode cX8_greatestPart 20 = .ok (.getfield 47, 3) := by decide +kernel
theorem dX8_greatestPart_23 : decode cX8_greatestPart 23 = .ok (.iload_n 2, 1) := by decide +kernel
theorem dX8_greatestPart_24 : decode cX8_greatestPart 24 = .ok (.iaload, 1) := by decide +kernel
theorem dX8_greatestPart_25 : decode cX8_greatestPart 25 = .ok (.goto 4, 3) := by decide +kernel
theorem dX8_greatestPart_28 : decode cX8_greatestPart 28 = .ok (.iload_n 1, 1) := by decide +kernel
theorem dX8_greatestPart_29 : decode cX8_greatestPart 29 = .ok (.istore_n 1, 1) := by decide +kernel
theorem dX8_greatestPart_30 : decode cX8_greatestPart 30 = .ok (.iinc 2 1, 3) := by decide +kernel
theorem dX8_greatestPart_33 : decode cX8_greatestPart 33 = .ok (.goto (-29), 3) := by decide +kernel
theorem dX8_greatestPart_36 : decode cX8_greatestPart 36 = .ok (.iload_n 1, 1) := by decide +kernel
theorem dX8_greatestPart_37 : decode cX8_greatestPart 37 = .ok (.ireturn, 1) := by decide +kernel
theorem dX8_tells_0 : decode cX8_tells 0 = .ok (.aload_n 0, 1) := by decide +kernel
theorem dX8_tells_1 : decode cX8_tells 1 = .ok (.invokevirtual 203, 3) := by decide +kernel
theorem dX8_tells_4 : decode cX8_tells 4 = .ok (.istore_n 1, 1) := by decide +kernel
theorem dX8_tells_5 : decode cX8_tells 5 = .ok (.iconst (-1), 1) := by decide +kernel
theorem dX8_tells_6 : decode cX8_tells 6 = .ok (.istore_n 2, 1) := by decide +kernel
theorem dX8_tells_7 : decode cX8_tells 7 = .ok (.iload_n 1, 1) := by decide +kernel
theorem dX8_tells_8 : decode cX8_tells 8 = .ok (.invokestatic 184, 3) := by decide +kernel
theorem dX8_tells_11 : decode cX8_tells 11 = .ok (.istore_n 3, 1) := by decide +kernel
theorem dX8_tells_12 : decode cX8_tells 12 = .ok (.iconst 0, 1) := by decide +kernel
theorem dX8_tells_13 : decode cX8_tells 13 = .ok (.istore 4, 2) := by decide +kernel
theorem dX8_tells_15 : decode cX8_tells 15 = .ok (.iload 4, 2) := by decide +kernel
theorem dX8_tells_17 : decode cX8_tells 17 = .ok (.aload_n 0, 1) := by decide +kernel
theorem dX8_tells_18 : decode cX8_tells 18 = .ok (.getfield 86, 3) := by decide +kernel
theorem dX8_tells_21 : decode cX8_tells 21 = .ok (.if_icmp .ge 137, 3) := by decide +kernel
theorem dX8_tells_24 : decode cX8_tells 24 = .ok (.iload 4, 2) := by decide +kernel
theorem dX8_tells_26 : decode cX8_tells 26 = .ok (.iconst 1, 1) := by decide +kernel
theorem dX8_tells_27 : decode cX8_tells 27 = .ok (.iadd, 1) := by decide +kernel
theorem dX8_tells_28 : decode cX8_tells 28 = .ok (.istore 5, 2) := by decide +kernel
theorem dX8_tells_30 : decode cX8_tells 30 = .ok (.iload 5, 2) := by decide +kernel
theorem dX8_tells_32 : decode cX8_tells 32 = .ok (.aload_n 0, 1) := by decide +kernel
theorem dX8_tells_33 : decode cX8_tells 33 = .ok (.getfield 86, 3) := by decide +kernel
theorem dX8_tells_36 : decode cX8_tells 36 = .ok (.if_icmp .ge 116, 3) := by decide +kernel
theorem dX8_tells_39 : decode cX8_tells 39 = .ok (.iconst 0, 1) := by decide +kernel
theorem dX8_tells_40 : decode cX8_tells 40 = .ok (.istore 6, 2) := by decide +kernel
theorem dX8_tells_42 : decode cX8_tells 42 = .ok (.iload 6, 2) := by decide +kernel
theorem dX8_tells_44 : decode cX8_tells 44 = .ok (.iconst 3, 1) := by decide +kernel
theorem dX8_tells_45 : decode cX8_tells 45 = .ok (.if_icmp .ge 17, 3) := by decide +kernel
theorem dX8_tells_48 : decode cX8_tells 48 = .ok (.aload_n 0, 1) := by decide +kernel
theorem dX8_tells_49 : decode cX8_tells 49 = .ok (.getfield 47, 3) := by decide +kernel
theorem dX8_tells_52 : decode cX8_tells 52 = .ok (.iload 6, 2) := by decide +kernel
theorem dX8_tells_54 : decode cX8_tells 54 = .ok (.iconst 0, 1) := by decide +kernel
theorem dX8_tells_55 : decode cX8_tells 55 = .ok (.iastore, 1) := by decide +kernel
theorem dX8_tells_56 : decode cX8_tells 56 = .ok (.iinc 6 1, 3) := by decide +kernel
theorem dX8_tells_59 : decode cX8_tells 59 = .ok (.goto (-17), 3) := by decide +kernel
theorem dX8_tells_62 : decode cX8_tells 62 = .ok (.iconst 0, 1) := by decide +kernel
theorem dX8_tells_63 : decode cX8_tells 63 = .ok (.istore 6, 2) := by decide +kernel
theorem dX8_tells_65 : decode cX8_tells 65 = .ok (.iload 6, 2) := by decide +kernel
theorem dX8_tells_67 : decode cX8_tells 67 = .ok (.bipush 10, 2) := by decide +kernel
theorem dX8_tells_69 : decode cX8_tells 69 = .ok (.if_icmp .ge 39, 3) := by decide +kernel
theorem dX8_tells_72 : decode cX8_tells 72 = .ok (.aload_n 0, 1) := by decide +kernel
theorem dX8_tells_73 : decode cX8_tells 73 = .ok (.getfield 47, 3) := by decide +kernel
theorem dX8_tells_76 : decode cX8_tells 76 = .ok (.aload_n 0, 1) := by decide +kernel
theorem dX8_tells_77 : decode cX8_tells 77 = .ok (.iload 4, 2) := by decide +kernel
theorem dX8_tells_79 : decode cX8_tells 79 = .ok (.iload 5, 2) := by decide +kernel
theorem dX8_tells_81 : decode cX8_tells 81 = .ok (.iload 6, 2) := by decide +kernel
theorem dX8_tells_83 : decode cX8_tells 83 = .ok (.iconst 2, 1) := by decide +kernel
theorem dX8_tells_84 : decode cX8_tells 84 = .ok (.idiv, 1) := by decide +kernel
theorem dX8_tells_85 : decode cX8_tells 85 = .ok (.iload 6, 2) := by decide +kernel
theorem dX8_tells_87 : decode cX8_tells 87 = .ok (.iconst 2, 1) := by decide +kernel
theorem dX8_tells_88 : decode cX8_tells 88 = .ok (.irem, 1) := by decide +kernel
theorem dX8_tells_89 : decode cX8_tells 89 = .ok (.invokevirtual 170, 3) := by decide +kernel
theorem dX8_tells_92 : decode cX8_tells 92 = .ok (.dup2, 1) := by decide +kernel
theorem dX8_tells_93 : decode cX8_tells 93 = .ok (.iaload, 1) := by decide +kernel
theorem dX8_tells_94 : decode cX8_tells 94 = .ok (.iload_n 1, 1) := by decide +kernel
theorem dX8_tells_95 : decode cX8_tells 95 = .ok (.iload 6, 2) := by decide +kernel
theorem dX8_tells_97 : decode cX8_tells 97 = .ok (.ishr, 1) := by decide +kernel
theorem dX8_tells_98 : decode cX8_tells 98 = .ok (.iconst 1, 1) := by decide +kernel
theorem dX8_tells_99 : decode cX8_tells 99 = .ok (.iand, 1) := by decide +kernel
theorem dX8_tells_100 : decode cX8_tells 100 = .ok (.iadd, 1) := by decide +kernel
theorem dX8_tells_101 : decode cX8_tells 101 = .ok (.iastore, 1) := by decide +kernel
theorem dX8_tells_102 : decode cX8_tells 102 = .ok (.iinc 6 1, 3) := by decide +kernel
theorem dX8_tells_105 : decode cX8_tells 105 = .ok (.goto (-40), 3) := by decide +kernel
theorem dX8_tells_108 : decode cX8_tells 108 = .ok (.aload_n 0, 1) := by decide +kernel
theorem dX8_tells_109 : decode cX8_tells 109 = .ok (.invokevirtual 296, 3) := by decide +kernel
theorem dX8_tells_112 : decode cX8_tells 112 = .ok (.istore 6, 2) := by decide +kernel
theorem dX8_tells_114 : decode cX8_tells 114 = .ok (.iload 6, 2) := by decide +kernel
theorem dX8_tells_116 : decode cX8_tells 116 = .ok (.iload_n 3, 1) := by decide +kernel
theorem dX8_tells_117 : decode cX8_tells 117 = .ok (.if_icmp .ge 14, 3) := by decide +kernel
theorem dX8_tells_120 : decode cX8_tells 120 = .ok (.bipush 100, 2) := by decide +kernel
theorem dX8_tells_122 : decode cX8_tells 122 = .ok (.iload 4, 2) := by decide +kernel
theorem dX8_tells_124 : decode cX8_tells 124 = .ok (.imul, 1) := by decide +kernel
theorem dX8_tells_125 : decode cX8_tells 125 = .ok (.iload 5, 2) := by decide +kernel
theorem dX8_tells_127 : decode cX8_tells 127 = .ok (.iadd, 1) := by decide +kernel
theorem dX8_tells_128 : decode cX8_tells 128 = .ok (.goto 4, 3) := by decide +kernel
theorem dX8_tells_131 : decode cX8_tells 131 = .ok (.iload_n 2, 1) := by decide +kernel
theorem dX8_tells_132 : decode cX8_tells 132 = .ok (.istore_n 2, 1) := by decide +kernel
theorem dX8_tells_133 : decode cX8_tells 133 = .ok (.iload 6, 2) := by decide +kernel
theorem dX8_tells_135 : decode cX8_tells 135 = .ok (.iload_n 3, 1) := by decide +kernel
theorem dX8_tells_136 : decode cX8_tells 136 = .ok (.if_icmp .ge 8, 3) := by decide +kernel
theorem dX8_tells_139 : decode cX8_tells 139 = .ok (.iload 6, 2) := by decide +kernel
theorem dX8_tells_141 : decode cX8_tells 141 = .ok (.goto 4, 3) := by decide +kernel
theorem dX8_tells_144 : decode cX8_tells 144 = .ok (.iload_n 3, 1) := by decide +kernel
theorem dX8_tells_145 : decode cX8_tells 145 = .ok (.istore_n 3, 1) := by decide +kernel
theorem dX8_tells_146 : decode cX8_tells 146 = .ok (.iinc 5 1, 3) := by decide +kernel
theorem dX8_tells_149 : decode cX8_tells 149 = .ok (.goto (-119), 3) := by decide +kernel
theorem dX8_tells_152 : decode cX8_tells 152 = .ok (.iinc 4 1, 3) := by decide +kernel
theorem dX8_tells_155 : decode cX8_tells 155 = .ok (.goto (-140), 3) := by decide +kernel
theorem dX8_tells_158 : decode cX8_tells 158 = .ok (.iload_n 2, 1) := by decide +kernel
theorem dX8_tells_159 : decode cX8_tells 159 = .ok (.ireturn, 1) := by decide +kernel
theorem dX8_odds_0 : decode cX8_odds 0 = .ok (.aload_n 0, 1) := by decide +kernel
theorem dX8_odds_1 : decode cX8_odds 1 = .ok (.iload_n 1, 1) := by decide +kernel
theorem dX8_odds_2 : decode cX8_odds 2 = .ok (.iload_n 2, 1) := by decide +kernel
