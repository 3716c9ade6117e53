theorem dX7_dayGoes_33 : decode cX7_dayGoes 33 = .ok (.aload_n 0, 1) := by decide +kernel
theorem dX7_dayGoes_34 : decode cX7_dayGoes 34 = .ok (.iload_n 2, 1) := by decide +kernel
theorem dX7_dayGoes_35 : decode cX7_dayGoes 35 = .ok (.iload_n 1, 1) := by decide +kernel
theorem dX7_dayGoes_36 : decode cX7_dayGoes 36 = .ok (.invokevirtual 197, 3) := by decide +kernel
theorem dX7_dayGoes_39 : decode cX7_dayGoes 39 = .ok (.ineg, 1) := by decide +kernel
theorem dX7_dayGoes_40 : decode cX7_dayGoes 40 = .ok (.istore_n 3, 1) := by decide +kernel
theorem dX7_dayGoes_41 : decode cX7_dayGoes 41 = .ok (.aload_n 0, 1) := by decide +kernel
theorem dX7_dayGoes_42 : decode cX7_dayGoes 42 = .ok (.iload_n 2, 1) := by decide +kernel
theorem dX7_dayGoes_43 : decode cX7_dayGoes 43 = .ok (.iconst 5, 1) := by decide +kernel
theorem dX7_dayGoes_44 : decode cX7_dayGoes 44 = .ok (.aload_n 0, 1) := by decide +kernel
theorem dX7_dayGoes_45 : decode cX7_dayGoes 45 = .ok (.iload_n 2, 1) := by decide +kernel
theorem dX7_dayGoes_46 : decode cX7_dayGoes 46 = .ok (.iconst 5, 1) := by decide +kernel
theorem dX7_dayGoes_47 : decode cX7_dayGoes 47 = .ok (.invokevirtual 150, 3) := by decide +kernel
theorem dX7_dayGoes_50 : decode cX7_dayGoes 50 = .ok (.iload_n 3, 1) := by decide +kernel
theorem dX7_dayGoes_51 : decode cX7_dayGoes 51 = .ok (.iadd, 1) := by decide +kernel
theorem dX7_dayGoes_52 : decode cX7_dayGoes 52 = .ok (.iconst 0, 1) := by decide +kernel
theorem dX7_dayGoes_53 : decode cX7_dayGoes 53 = .ok (.bipush 99, 2) := by decide +kernel
theorem dX7_dayGoes_55 : decode cX7_dayGoes 55 = .ok (.invokestatic 143, 3) := by decide +kernel
theorem dX7_dayGoes_58 : decode cX7_dayGoes 58 = .ok (.invokevirtual 186, 3) := by decide +kernel
theorem dX7_dayGoes_61 : decode cX7_dayGoes 61 = .ok (.iinc 2 1, 3) := by decide +kernel
theorem dX7_dayGoes_64 : decode cX7_dayGoes 64 = .ok (.goto (-57), 3) := by decide +kernel
theorem dX7_dayGoes_67 : decode cX7_dayGoes 67 = .ok (.aload_n 0, 1) := by decide +kernel
theorem dX7_dayGoes_68 : decode cX7_dayGoes 68 = .ok (.getfield 7, 3) := by decide +kernel
theorem dX7_dayGoes_71 : decode cX7_dayGoes 71 = .ok (.bipush 6, 2) := by decide +kernel
theorem dX7_dayGoes_73 : decode cX7_dayGoes 73 = .ok (.dup2, 1) := by decide +kernel
theorem dX7_dayGoes_74 : decode cX7_dayGoes 74 = .ok (.iaload, 1) := by decide +kernel
theorem dX7_dayGoes_75 : decode cX7_dayGoes 75 = .ok (.iconst 1, 1) := by decide +kernel
theorem dX7_dayGoes_76 : decode cX7_dayGoes 76 = .ok (.iadd, 1) := by decide +kernel
theorem dX7_dayGoes_77 : decode cX7_dayGoes 77 = .ok (.iastore, 1) := by decide +kernel
theorem dX7_dayGoes_78 : decode cX7_dayGoes 78 = .ok (.return_, 1) := by decide +kernel
theorem dX7_daysGo_0 : decode cX7_daysGo 0 = .ok (.iconst 0, 1) := by decide +kernel
theorem dX7_daysGo_1 : decode cX7_daysGo 1 = .ok (.istore_n 2, 1) := by decide +kernel
theorem dX7_daysGo_2 : decode cX7_daysGo 2 = .ok (.iload_n 2, 1) := by decide +kernel
theorem dX7_daysGo_3 : decode cX7_daysGo 3 = .ok (.iload_n 1, 1) := by decide +kernel
theorem dX7_daysGo_4 : decode cX7_daysGo 4 = .ok (.if_icmp .ge 13, 3) := by decide +kernel
theorem dX7_daysGo_7 : decode cX7_daysGo 7 = .ok (.aload_n 0, 1) := by decide +kernel
theorem dX7_daysGo_8 : decode cX7_daysGo 8 = .ok (.invokevirtual 220, 3) := by decide +kernel
theorem dX7_daysGo_11 : decode cX7_daysGo 11 = .ok (.iinc 2 1, 3) := by decide +kernel
theorem dX7_daysGo_14 : decode cX7_daysGo 14 = .ok (.goto (-12), 3) := by decide +kernel
theorem dX7_daysGo_17 : decode cX7_daysGo 17 = .ok (.return_, 1) := by decide +kernel
theorem dX7_alive_0 : decode cX7_alive 0 = .ok (.iconst 0, 1) := by decide +kernel
theorem dX7_alive_1 : decode cX7_alive 1 = .ok (.istore_n 1, 1) := by decide +kernel
theorem dX7_alive_2 : decode cX7_alive 2 = .ok (.iconst 0, 1) := by decide +kernel
theorem dX7_alive_3 : decode cX7_alive 3 = .ok (.istore_n 2, 1) := by decide +kernel
theorem dX7_alive_4 : decode cX7_alive 4 = .ok (.iload_n 2, 1) := by decide +kernel
theorem dX7_alive_5 : decode cX7_alive 5 = .ok (.aload_n 0, 1) := by decide +kernel
theorem dX7_alive_6 : decode cX7_alive 6 = .ok (.getfield 7, 3) := by decide +kernel
theorem dX7_alive_9 : decode cX7_alive 9 = .ok (.iconst 0, 1) := by decide +kernel
theorem dX7_alive_10 : decode cX7_alive 10 = .ok (.iaload, 1) := by decide +kernel
theorem dX7_alive_11 : decode cX7_alive 11 = .ok (.if_icmp .ge 25, 3) := by decide +kernel
theorem dX7_alive_14 : decode cX7_alive 14 = .ok (.iload_n 1, 1) := by decide +kernel
theorem dX7_alive_15 : decode cX7_alive 15 = .ok (.aload_n 0, 1) := by decide +kernel
theorem dX7_alive_16 : decode cX7_alive 16 = .ok (.iload_n 2, 1) := by decide +kernel
theorem dX7_alive_17 : decode cX7_alive 17 = .ok (.invokevirtual 153, 3) := by decide +kernel
theorem dX7_alive_20 : decode cX7_alive 20 = .ok (.ifCond .eq 7, 3) := by decide +kernel
theorem dX7_alive_23 : decode cX7_alive 23 = .ok (.iconst 0, 1) := by decide +kernel
theorem dX7_alive_24 : decode cX7_alive 24 = .ok (.goto 4, 3) := by decide +kernel
theorem dX7_alive_27 : decode cX7_alive 27 = .ok (.iconst 1, 1) := by decide +kernel
theorem dX7_alive_28 : decode cX7_alive 28 = .ok (.iadd, 1) := by decide +kernel
theorem dX7_alive_29 : decode cX7_alive 29 = .ok (.istore_n 1, 1) := by decide +kernel
theorem dX7_alive_30 : decode cX7_alive 30 = .ok (.iinc 2 1, 3) := by decide +kernel
theorem dX7_alive_33 : decode cX7_alive 33 = .ok (.goto (-29), 3) := by decide +kernel
theorem dX7_alive_36 : decode cX7_alive 36 = .ok (.iload_n 1, 1) := by decide +kernel
theorem dX7_alive_37 : decode cX7_alive 37 = .ok (.ireturn, 1) := by decide +kernel
theorem dX7_aliveSet_0 : decode cX7_aliveSet 0 = .ok (.iconst 0, 1) := by decide +kernel
theorem dX7_aliveSet_1 : decode cX7_aliveSet 1 = .ok (.istore_n 1, 1) := by decide +kernel
theorem dX7_aliveSet_2 : decode cX7_aliveSet 2 = .ok (.iconst 0, 1) := by decide +kernel
theorem dX7_aliveSet_3 : decode cX7_aliveSet 3 = .ok (.istore_n 2, 1) := by decide +kernel
theorem dX7_aliveSet_4 : decode cX7_aliveSet 4 = .ok (.iload_n 2, 1) := by decide +kernel
theorem dX7_aliveSet_5 : decode cX7_aliveSet 5 = .ok (.aload_n 0, 1) := by decide +kernel
theorem dX7_aliveSet_6 : decode cX7_aliveSet 6 = .ok (.getfield 7, 3) := by decide +kernel
theorem dX7_aliveSet_9 : decode cX7_aliveSet 9 = .ok (.iconst 0, 1) := by decide +kernel
theorem dX7_aliveSet_10 : decode cX7_aliveSet 10 = .ok (.iaload, 1) := by decide +kernel
theorem dX7_aliveSet_11 : decode cX7_aliveSet 11 = .ok (.if_icmp .ge 27, 3) := by decide +kernel
theorem dX7_aliveSet_14 : decode cX7_aliveSet 14 = .ok (.iload_n 1, 1) := by decide +kernel
theorem dX7_aliveSet_15 : decode cX7_aliveSet 15 = .ok (.aload_n 0, 1) := by decide +kernel
theorem dX7_aliveSet_16 : decode cX7_aliveSet 16 = .ok (.iload_n 2, 1) := by decide +kernel
theorem dX7_aliveSet_17 : decode cX7_aliveSet 17 = .ok (.invokevirtual 153, 3) := by decide +kernel
theorem dX7_aliveSet_20 : decode cX7_aliveSet 20 = .ok (.ifCond .eq 7, 3) := by decide +kernel
theorem dX7_aliveSet_23 : decode cX7_aliveSet 23 = .ok (.iconst 0, 1) := by decide +kernel
theorem dX7_aliveSet_24 : decode cX7_aliveSet 24 = .ok (.goto 6, 3) := by decide +kernel
theorem dX7_aliveSet_27 : decode cX7_aliveSet 27 = .ok (.iconst 1, 1) := by decide +kernel
theorem dX7_aliveSet_28 : decode cX7_aliveSet 28 = .ok (.iload_n 2, 1) := by decide +kernel
theorem dX7_aliveSet_29 : decode cX7_aliveSet 29 = .ok (.ishl, 1) := by decide +kernel
theorem dX7_aliveSet_30 : decode cX7_aliveSet 30 = .ok (.ior, 1) := by decide +kernel
theorem dX7_aliveSet_31 : decode cX7_aliveSet 31 = .ok (.istore_n 1, 1) := by decide +kernel
theorem dX7_aliveSet_32 : decode cX7_aliveSet 32 = .ok (.iinc 2 1, 3) := by decide +kernel
theorem dX7_aliveSet_35 : decode cX7_aliveSet 35 = .ok (.goto (-31), 3) := by decide +kernel
theorem dX7_aliveSet_38 : decode cX7_aliveSet 38 = .ok (.iload_n 1, 1) := by decide +kernel
theorem dX7_aliveSet_39 : decode cX7_aliveSet 39 = .ok (.ireturn, 1) := by decide +kernel
theorem dX7_days_0 : decode cX7_days 0 = .ok (.iload_n 1, 1) := by decide +kernel
theorem dX7_days_1 : decode cX7_days 1 = .ok (.i2l, 1) := by decide +kernel
theorem dX7_days_2 : decode cX7_days 2 = .ok (.lconst 1, 1) := by decide +kernel
theorem dX7_days_3 : decode cX7_days 3 = .ok (.ldc2_w 223, 3) := by decide +kernel
theorem dX7_days_6 : decode cX7_days 6 = .ok (.invokestatic 53, 3) := by decide +kernel
theorem dX7_days_9 : decode cX7_days 9 = .ok (.ifCond .ne 9, 3) := by decide +kernel
theorem dX7_days_12 : decode cX7_days 12 = .ok (.aload_n 0, 1) := by decide +kernel
theorem dX7_days_13 : decode cX7_days 13 = .ok (.iconst 1, 1) := by decide +kernel
theorem dX7_days_14 : decode cX7_days 14 = .ok (.invokevirtual 130, 3) := by decide +kernel
theorem dX7_days_17 : decode cX7_days 17 = .ok (.ireturn, 1) := by decide +kernel
theorem dX7_days_18 : decode cX7_days 18 = .ok (.aload_n 0, 1) := by decide +kernel
theorem dX7_days_19 : decode cX7_days 19 = .ok (.getfield 7, 3) := by decide +kernel
theorem dX7_days_22 : decode cX7_days 22 = .ok (.bipush 6, 2) := by decide +kernel
theorem dX7_days_24 : decode cX7_days 24 = .ok (.iaload, 1) := by decide +kernel
theorem dX7_days_25 : decode cX7_days 25 = .ok (.iload_n 1, 1) := by decide +kernel
theorem dX7_days_26 : decode cX7_days 26 = .ok (.iadd, 1) := by decide +kernel
theorem dX7_days_27 : decode cX7_days 27 = .ok (.sipush 9999, 3) := by decide +kernel
theorem dX7_days_30 : decode cX7_days 30 = .ok (.if_icmp .le 9, 3) := by decide +kernel
theorem dX7_days_33 : decode cX7_days 33 = .ok (.aload_n 0, 1) := by decide +kernel
theorem dX7_days_34 : decode cX7_days 34 = .ok (.iconst 3, 1) := by decide +kernel
theorem dX7_days_35 : decode cX7_days 35 = .ok (.invokevirtual 130, 3) := by decide +kernel
theorem dX7_days_38 : decode cX7_days 38 = .ok (.ireturn, 1) := by decide +kernel
theorem dX7_days_39 : decode cX7_days 39 = .ok (.aload_n 0, 1) := by decide +kernel
theorem dX7_days_40 : decode cX7_days 40 = .ok (.iload_n 1, 1) := by decide +kernel
theorem dX7_days_41 : decode cX7_days 41 = .ok (.invokevirtual 225, 3) := by decide +kernel
theorem dX7_days_44 : decode cX7_days 44 = .ok (.aload_n 0, 1) := by decide +kernel
theorem dX7_days_45 : decode cX7_days 45 = .ok (.invokevirtual 228, 3) := by decide +kernel
theorem dX7_days_48 : decode cX7_days 48 = .ok (.ireturn, 1) := by decide +kernel
theorem dX7_drawn_0 : decode cX7_drawn 0 = .ok (.aload_n 0, 1) := by decide +kernel
theorem dX7_drawn_1 : decode cX7_drawn 1 = .ok (.getfield 7, 3) := by decide +kernel
theorem dX7_drawn_4 : decode cX7_drawn 4 = .ok (.bipush 7, 2) := by decide +kernel
theorem dX7_drawn_6 : decode cX7_drawn 6 = .ok (.aload_n 0, 1) := by decide +kernel
theorem dX7_drawn_7 : decode cX7_drawn 7 = .ok (.getfield 7, 3) := by decide +kernel
theorem dX7_drawn_10 : decode cX7_drawn 10 = .ok (.bipush 7, 2) := by decide +kernel
theorem dX7_drawn_12 : decode cX7_drawn 12 = .ok (.iaload, 1) := by decide +kernel
theorem dX7_drawn_13 : decode cX7_drawn 13 = .ok (.ldc 231, 2) := by decide +kernel
theorem dX7_drawn_15 : decode cX7_drawn 15 = .ok (.imul, 1) := by decide +kernel
theorem dX7_drawn_16 : decode cX7_drawn 16 = .ok (.sipush 12345, 3) := by decide +kernel
theorem dX7_drawn_19 : decode cX7_drawn 19 = .ok (.iadd, 1) := by decide +kernel
theorem dX7_drawn_20 : decode cX7_drawn 20 = .ok (.iastore, 1) := by decide +kernel
theorem dX7_drawn_21 : decode cX7_drawn 21 = .ok (.aload_n 0, 1) := by decide +kernel
theorem dX7_drawn_22 : decode cX7_drawn 22 = .ok (.getfield 7, 3) := by decide +kernel
theorem dX7_drawn_25 : decode cX7_drawn 25 = .ok (.bipush 7, 2) := by decide +kernel
theorem dX7_drawn_27 : decode cX7_drawn 27 = .ok (.iaload, 1) := by decide +kernel
theorem dX7_drawn_28 : decode cX7_drawn 28 = .ok (.bipush 8, 2) := by decide +kernel
theorem dX7_drawn_30 : decode cX7_drawn 30 = .ok (.iushr, 1) := by decide +kernel
theorem dX7_drawn_31 : decode cX7_drawn 31 = .ok (.ireturn, 1) := by decide +kernel
theorem dX7_loose_0 : decode cX7_loose 0 = .ok (.iload_n 1, 1) := by decide +kernel
theorem dX7_loose_1 : decode cX7_loose 1 = .ok (.i2l, 1) := by decide +kernel
theorem dX7_loose_2 : decode cX7_loose 2 = .ok (.lconst 1, 1) := by decide +kernel
theorem dX7_loose_3 : decode cX7_loose 3 = .ok (.ldc2_w 232, 3) := by decide +kernel
theorem dX7_loose_6 : decode cX7_loose 6 = .ok (.invokestatic 53, 3) := by decide +kernel
theorem dX7_loose_9 : decode cX7_loose 9 = .ok (.ifCond .ne 9, 3) := by decide +kernel
theorem dX7_loose_12 : decode cX7_loose 12 = .ok (.aload_n 0, 1) := by decide +kernel
theorem dX7_loose_13 : decode cX7_loose 13 = .ok (.iconst 1, 1) := by decide +kernel
theorem dX7_loose_14 : decode cX7_loose 14 = .ok (.invokevirtual 130, 3) := by decide +kernel
theorem dX7_loose_17 : decode cX7_loose 17 = .ok (.ireturn, 1) := by decide +kernel
theorem dX7_loose_18 : decode cX7_loose 18 = .ok (.aload_n 0, 1) := by decide +kernel
theorem dX7_loose_19 : decode cX7_loose 19 = .ok (.getfield 7, 3) := by decide +kernel
theorem dX7_loose_22 : decode cX7_loose 22 = .ok (.bipush 6, 2) := by decide +kernel
theorem dX7_loose_24 : decode cX7_loose 24 = .ok (.iaload, 1) := by decide +kernel
theorem dX7_loose_25 : decode cX7_loose 25 = .ok (.iload_n 1, 1) := by decide +kernel
theorem dX7_loose_26 : decode cX7_loose 26 = .ok (.iadd, 1) := by decide +kernel
theorem dX7_loose_27 : decode cX7_loose 27 = .ok (.sipush 9999, 3) := by decide +kernel
theorem dX7_loose_30 : decode cX7_loose 30 = .ok (.if_icmp .le 9, 3) := by decide +kernel
theorem dX7_loose_33 : decode cX7_loose 33 = .ok (.aload_n 0, 1) := by decide +kernel
theorem dX7_loose_34 : decode cX7_loose 34 = .ok (.iconst 3, 1) := by decide +kernel
theorem dX7_loose_35 : decode cX7_loose 35 = .ok (.invokevirtual 130, 3) := by decide +kernel
theorem dX7_loose_38 : decode cX7_loose 38 = .ok (.ireturn, 1) := by decide +kernel
theorem dX7_loose_39 : decode cX7_loose 39 = .ok (.iconst 0, 1) := by decide +kernel
theorem dX7_loose_40 : decode cX7_loose 40 = .ok (.istore_n 2, 1) := by decide +kernel
theorem dX7_loose_41 : decode cX7_loose 41 = .ok (.iload_n 2, 1) := by decide +kernel
theorem dX7_loose_42 : decode cX7_loose 42 = .ok (.iload_n 1, 1) := by decide +kernel
theorem dX7_loose_43 : decode cX7_loose 43 = .ok (.if_icmp .ge 51, 3) := by decide +kernel
theorem dX7_loose_46 : decode cX7_loose 46 = .ok (.aload_n 0, 1) := by decide +kernel
theorem dX7_loose_47 : decode cX7_loose 47 = .ok (.getfield 7, 3) := by decide +kernel
theorem dX7_loose_50 : decode cX7_loose 50 = .ok (.iconst 5, 1) := by decide +kernel
theorem dX7_loose_51 : decode cX7_loose 51 = .ok (.aload_n 0, 1) := by decide +kernel
theorem dX7_loose_52 : decode cX7_loose 52 = .ok (.invokevirtual 234, 3) := by decide +kernel
theorem dX7_loose_55 : decode cX7_loose 55 = .ok (.bipush 10, 2) := by decide +kernel
theorem dX7_loose_57 : decode cX7_loose 57 = .ok (.irem, 1) := by decide +kernel
theorem dX7_loose_58 : decode cX7_loose 58 = .ok (.iastore, 1) := by decide +kernel
theorem dX7_loose_59 : decode cX7_loose 59 = .ok (.aload_n 0, 1) := by decide +kernel
theorem dX7_loose_60 : decode cX7_loose 60 = .ok (.getfield 7, 3) := by decide +kernel
theorem dX7_loose_63 : decode cX7_loose 63 = .ok (.iconst 1, 1) := by decide +kernel
theorem dX7_loose_64 : decode cX7_loose 64 = .ok (.iaload, 1) := by decide +kernel
theorem dX7_loose_65 : decode cX7_loose 65 = .ok (.ifCond .le 19, 3) := by decide +kernel
theorem dX7_loose_68 : decode cX7_loose 68 = .ok (.aload_n 0, 1) := by decide +kernel
theorem dX7_loose_69 : decode cX7_loose 69 = .ok (.aload_n 0, 1) := by decide +kernel
theorem dX7_loose_70 : decode cX7_loose 70 = .ok (.invokevirtual 234, 3) := by decide +kernel
theorem dX7_loose_73 : decode cX7_loose 73 = .ok (.aload_n 0, 1) := by decide +kernel
theorem dX7_loose_74 : decode cX7_loose 74 = .ok (.getfield 7, 3) := by decide +kernel
theorem dX7_loose_77 : decode cX7_loose 77 = .ok (.iconst 1, 1) := by decide +kernel
theorem dX7_loose_78 : decode cX7_loose 78 = .ok (.iaload, 1) := by decide +kernel
theorem dX7_loose_79 : decode cX7_loose 79 = .ok (.irem, 1) := by decide +kernel
theorem dX7_loose_80 : decode cX7_loose 80 = .ok (.invokevirtual 217, 3) := by decide +kernel
theorem dX7_loose_83 : decode cX7_loose 83 = .ok (.istore_n 3, 1) := by decide +kernel
theorem dX7_loose_84 : decode cX7_loose 84 = .ok (.aload_n 0, 1) := by decide +kernel
theorem dX7_loose_85 : decode cX7_loose 85 = .ok (.invokevirtual 220, 3) := by decide +kernel
theorem dX7_loose_88 : decode cX7_loose 88 = .ok (.iinc 2 1, 3) := by decide +kernel
theorem dX7_loose_91 : decode cX7_loose 91 = .ok (.goto (-50), 3) := by decide +kernel
theorem dX7_loose_94 : decode cX7_loose 94 = .ok (.aload_n 0, 1) := by decide +kernel
theorem dX7_loose_95 : decode cX7_loose 95 = .ok (.invokevirtual 228, 3) := by decide +kernel
theorem dX7_loose_98 : decode cX7_loose 98 = .ok (.ireturn, 1) := by decide +kernel
theorem dX7_live_0 : decode cX7_live 0 = .ok (.iload_n 1, 1) := by decide +kernel
theorem dX7_live_1 : decode cX7_live 1 = .ok (.i2l, 1) := by decide +kernel
theorem dX7_live_2 : decode cX7_live 2 = .ok (.lconst 0, 1) := by decide +kernel
theorem dX7_live_3 : decode cX7_live 3 = .ok (.ldc2_w 223, 3) := by decide +kernel
theorem dX7_live_6 : decode cX7_live 6 = .ok (.invokestatic 53, 3) := by decide +kernel
theorem dX7_live_9 : decode cX7_live 9 = .ok (.ifCond .ne 9, 3) := by decide +kernel
theorem dX7_live_12 : decode cX7_live 12 = .ok (.aload_n 0, 1) := by decide +kernel
theorem dX7_live_13 : decode cX7_live 13 = .ok (.iconst 1, 1) := by decide +kernel
theorem dX7_live_14 : decode cX7_live 14 = .ok (.invokevirtual 130, 3) := by decide +kernel
theorem dX7_live_17 : decode cX7_live 17 = .ok (.ireturn, 1) := by decide +kernel
theorem dX7_live_18 : decode cX7_live 18 = .ok (.aload_n 0, 1) := by decide +kernel
theorem dX7_live_19 : decode cX7_live 19 = .ok (.invokevirtual 237, 3) := by decide +kernel
theorem dX7_live_22 : decode cX7_live 22 = .ok (.aload_n 0, 1) := by decide +kernel
theorem dX7_live_23 : decode cX7_live 23 = .ok (.iload_n 1, 1) := by decide +kernel
theorem dX7_live_24 : decode cX7_live 24 = .ok (.invokevirtual 225, 3) := by decide +kernel
theorem dX7_live_27 : decode cX7_live 27 = .ok (.aload_n 0, 1) := by decide +kernel
theorem dX7_live_28 : decode cX7_live 28 = .ok (.invokevirtual 240, 3) := by decide +kernel
theorem dX7_live_31 : decode cX7_live 31 = .ok (.istore_n 2, 1) := by decide +kernel
theorem dX7_live_32 : decode cX7_live 32 = .ok (.aload_n 0, 1) := by decide +kernel
theorem dX7_live_33 : decode cX7_live 33 = .ok (.invokevirtual 243, 3) := by decide +kernel
theorem dX7_live_36 : decode cX7_live 36 = .ok (.iload_n 2, 1) := by decide +kernel
theorem dX7_live_37 : decode cX7_live 37 = .ok (.ireturn, 1) := by decide +kernel
theorem dX7_freezes_0 : decode cX7_freezes 0 = .ok (.aload_n 0, 1) := by decide +kernel
theorem dX7_freezes_1 : decode cX7_freezes 1 = .ok (.iload_n 1, 1) := by decide +kernel
theorem dX7_freezes_2 : decode cX7_freezes 2 = .ok (.invokevirtual 189, 3) := by decide +kernel
theorem dX7_freezes_5 : decode cX7_freezes 5 = .ok (.ifCond .ne 9, 3) := by decide +kernel
theorem dX7_freezes_8 : decode cX7_freezes 8 = .ok (.aload_n 0, 1) := by decide +kernel
theorem dX7_freezes_9 : decode cX7_freezes 9 = .ok (.iconst 1, 1) := by decide +kernel
theorem dX7_freezes_10 : decode cX7_freezes 10 = .ok (.invokevirtual 130, 3) := by decide +kernel
theorem dX7_freezes_13 : decode cX7_freezes 13 = .ok (.ireturn, 1) := by decide +kernel
theorem dX7_freezes_14 : decode cX7_freezes 14 = .ok (.aload_n 0, 1) := by decide +kernel
theorem dX7_freezes_15 : decode cX7_freezes 15 = .ok (.invokevirtual 237, 3) := by decide +kernel
theorem dX7_freezes_18 : decode cX7_freezes 18 = .ok (.iconst 0, 1) := by decide +kernel
theorem dX7_freezes_19 : decode cX7_freezes 19 = .ok (.istore_n 2, 1) := by decide +kernel
theorem dX7_freezes_20 : decode cX7_freezes 20 = .ok (.iload_n 2, 1) := by decide +kernel
theorem dX7_freezes_21 : decode cX7_freezes 21 = .ok (.bipush 60, 2) := by decide +kernel
theorem dX7_freezes_23 : decode cX7_freezes 23 = .ok (.if_icmp .gt 21, 3) := by decide +kernel
theorem dX7_freezes_26 : decode cX7_freezes 26 = .ok (.aload_n 0, 1) := by decide +kernel
theorem dX7_freezes_27 : decode cX7_freezes 27 = .ok (.iload_n 1, 1) := by decide +kernel
theorem dX7_freezes_28 : decode cX7_freezes 28 = .ok (.invokevirtual 153, 3) := by decide +kernel
theorem dX7_freezes_31 : decode cX7_freezes 31 = .ok (.ifCond .ne 13, 3) := by decide +kernel
theorem dX7_freezes_34 : decode cX7_freezes 34 = .ok (.aload_n 0, 1) := by decide +kernel
theorem dX7_freezes_35 : decode cX7_freezes 35 = .ok (.invokevirtual 220, 3) := by decide +kernel
theorem dX7_freezes_38 : decode cX7_freezes 38 = .ok (.iinc 2 1, 3) := by decide +kernel
theorem dX7_freezes_41 : decode cX7_freezes 41 = .ok (.goto (-21), 3) := by decide +kernel
theorem dX7_freezes_44 : decode cX7_freezes 44 = .ok (.aload_n 0, 1) := by decide +kernel
theorem dX7_freezes_45 : decode cX7_freezes 45 = .ok (.invokevirtual 243, 3) := by decide +kernel
theorem dX7_freezes_48 : decode cX7_freezes 48 = .ok (.iload_n 2, 1) := by decide +kernel
theorem dX7_freezes_49 : decode cX7_freezes 49 = .ok (.bipush 60, 2) := by decide +kernel
theorem dX7_freezes_51 : decode cX7_freezes 51 = .ok (.if_icmp .le 11, 3) := by decide +kernel
theorem dX7_freezes_54 : decode cX7_freezes 54 = .ok (.aload_n 0, 1) := by decide +kernel
theorem dX7_freezes_55 : decode cX7_freezes 55 = .ok (.iconst 2, 1) := by decide +kernel
theorem dX7_freezes_56 : decode cX7_freezes 56 = .ok (.invokevirtual 130, 3) := by decide +kernel
theorem dX7_freezes_59 : decode cX7_freezes 59 = .ok (.goto 4, 3) := by decide +kernel
theorem dX7_freezes_62 : decode cX7_freezes 62 = .ok (.iload_n 2, 1) := by decide +kernel
theorem dX7_freezes_63 : decode cX7_freezes 63 = .ok (.ireturn, 1) := by decide +kernel
theorem dX7_firstDay_0 : decode cX7_firstDay 0 = .ok (.aload_n 0, 1) := by decide +kernel
theorem dX7_firstDay_1 : decode cX7_firstDay 1 = .ok (.iload_n 1, 1) := by decide +kernel
theorem dX7_firstDay_2 : decode cX7_firstDay 2 = .ok (.invokevirtual 209, 3) := by decide +kernel
theorem dX7_firstDay_5 : decode cX7_firstDay 5 = .ok (.ifCond .ne 9, 3) := by decide +kernel
theorem dX7_firstDay_8 : decode cX7_firstDay 8 = .ok (.aload_n 0, 1) := by decide +kernel
theorem dX7_firstDay_9 : decode cX7_firstDay 9 = .ok (.iconst 1, 1) := by decide +kernel
theorem dX7_firstDay_10 : decode cX7_firstDay 10 = .ok (.invokevirtual 130, 3) := by decide +kernel
theorem dX7_firstDay_13 : decode cX7_firstDay 13 = .ok (.ireturn, 1) := by decide +kernel
theorem dX7_firstDay_14 : decode cX7_firstDay 14 = .ok (.aload_n 0, 1) := by decide +kernel
theorem dX7_firstDay_15 : decode cX7_firstDay 15 = .ok (.invokevirtual 237, 3) := by decide +kernel
theorem dX7_firstDay_18 : decode cX7_firstDay 18 = .ok (.iconst 0, 1) := by decide +kernel
theorem dX7_firstDay_19 : decode cX7_firstDay 19 = .ok (.istore_n 2, 1) := by decide +kernel
theorem dX7_firstDay_20 : decode cX7_firstDay 20 = .ok (.iload_n 2, 1) := by decide +kernel
theorem dX7_firstDay_21 : decode cX7_firstDay 21 = .ok (.bipush 60, 2) := by decide +kernel
theorem dX7_firstDay_23 : decode cX7_firstDay 23 = .ok (.if_icmp .gt 21, 3) := by decide +kernel
theorem dX7_firstDay_26 : decode cX7_firstDay 26 = .ok (.aload_n 0, 1) := by decide +kernel
theorem dX7_firstDay_27 : decode cX7_firstDay 27 = .ok (.iload_n 1, 1) := by decide +kernel
theorem dX7_firstDay_28 : decode cX7_firstDay 28 = .ok (.invokevirtual 214, 3) := by decide +kernel
theorem dX7_firstDay_31 : decode cX7_firstDay 31 = .ok (.ifCond .ne 13, 3) := by decide +kernel
theorem dX7_firstDay_34 : decode cX7_firstDay 34 = .ok (.aload_n 0, 1) := by decide +kernel
theorem dX7_firstDay_35 : decode cX7_firstDay 35 = .ok (.invokevirtual 220, 3) := by decide +kernel
theorem dX7_firstDay_38 : decode cX7_firstDay 38 = .ok (.iinc 2 1, 3) := by decide +kernel
theorem dX7_firstDay_41 : decode cX7_firstDay 41 = .ok (.goto (-21), 3) := by decide +kernel
theorem dX7_firstDay_44 : decode cX7_firstDay 44 = .ok (.aload_n 0, 1) := by decide +kernel
theorem dX7_firstDay_45 : decode cX7_firstDay 45 = .ok (.invokevirtual 243, 3) := by decide +kernel
theorem dX7_firstDay_48 : decode cX7_firstDay 48 = .ok (.iload_n 2, 1) := by decide +kernel
theorem dX7_firstDay_49 : decode cX7_firstDay 49 = .ok (.bipush 60, 2) := by decide +kernel
theorem dX7_firstDay_51 : decode cX7_firstDay 51 = .ok (.if_icmp .le 11, 3) := by decide +kernel
theorem dX7_firstDay_54 : decode cX7_firstDay 54 = .ok (.aload_n 0, 1) := by decide +kernel
theorem dX7_firstDay_55 : decode cX7_firstDay 55 = .ok (.iconst 2, 1) := by decide +kernel
theorem dX7_firstDay_56 : decode cX7_firstDay 56 = .ok (.invokevirtual 130, 3) := by decide +kernel
theorem dX7_firstDay_59 : decode cX7_firstDay 59 = .ok (.goto 4, 3) := by decide +kernel
theorem dX7_firstDay_62 : decode cX7_firstDay 62 = .ok (.iload_n 2, 1) := by decide +kernel
theorem dX7_firstDay_63 : decode cX7_firstDay 63 = .ok (.ireturn, 1) := by decide +kernel
theorem dX7_turning_0 : decode cX7_turning 0 = .ok (.aload_n 0, 1) := by decide +kernel
theorem dX7_turning_1 : decode cX7_turning 1 = .ok (.iload_n 1, 1) := by decide +kernel
theorem dX7_turning_2 : decode cX7_turning 2 = .ok (.invokevirtual 209, 3) := by decide +kernel
theorem dX7_turning_5 : decode cX7_turning 5 = .ok (.ifCond .ne 9, 3) := by decide +kernel
theorem dX7_turning_8 : decode cX7_turning 8 = .ok (.aload_n 0, 1) := by decide +kernel
theorem dX7_turning_9 : decode cX7_turning 9 = .ok (.iconst 1, 1) := by decide +kernel
theorem dX7_turning_10 : decode cX7_turning 10 = .ok (.invokevirtual 130, 3) := by decide +kernel
theorem dX7_turning_13 : decode cX7_turning 13 = .ok (.ireturn, 1) := by decide +kernel
theorem dX7_turning_14 : decode cX7_turning 14 = .ok (.aload_n 0, 1) := by decide +kernel
theorem dX7_turning_15 : decode cX7_turning 15 = .ok (.iload_n 1, 1) := by decide +kernel
theorem dX7_turning_16 : decode cX7_turning 16 = .ok (.invokevirtual 214, 3) := by decide +kernel
theorem dX7_turning_19 : decode cX7_turning 19 = .ok (.istore_n 2, 1) := by decide +kernel
theorem dX7_turning_20 : decode cX7_turning 20 = .ok (.aload_n 0, 1) := by decide +kernel
theorem dX7_turning_21 : decode cX7_turning 21 = .ok (.iload_n 1, 1) := by decide +kernel
theorem dX7_turning_22 : decode cX7_turning 22 = .ok (.iconst 1, 1) := by decide +kernel
theorem dX7_turning_23 : decode cX7_turning 23 = .ok (.invokevirtual 172, 3) := by decide +kernel
theorem dX7_turning_26 : decode cX7_turning 26 = .ok (.istore_n 3, 1) := by decide +kernel
theorem dX7_turning_27 : decode cX7_turning 27 = .ok (.iconst 0, 1) := by decide +kernel
theorem dX7_turning_28 : decode cX7_turning 28 = .ok (.istore 4, 2) := by decide +kernel
theorem dX7_turning_30 : decode cX7_turning 30 = .ok (.iconst 0, 1) := by decide +kernel
theorem dX7_turning_31 : decode cX7_turning 31 = .ok (.istore 5, 2) := by decide +kernel
theorem dX7_turning_33 : decode cX7_turning 33 = .ok (.iload 5, 2) := by decide +kernel
theorem dX7_turning_35 : decode cX7_turning 35 = .ok (.aload_n 0, 1) := by decide +kernel
theorem dX7_turning_36 : decode cX7_turning 36 = .ok (.getfield 7, 3) := by decide +kernel
theorem dX7_turning_39 : decode cX7_turning 39 = .ok (.iconst 0, 1) := by decide +kernel
theorem dX7_turning_40 : decode cX7_turning 40 = .ok (.iaload, 1) := by decide +kernel
theorem dX7_turning_41 : decode cX7_turning 41 = .ok (.if_icmp .ge 50, 3) := by decide +kernel
theorem dX7_turning_44 : decode cX7_turning 44 = .ok (.aload_n 0, 1) := by decide +kernel
theorem dX7_turning_45 : decode cX7_turning 45 = .ok (.getfield 7, 3) := by decide +kernel
theorem dX7_turning_48 : decode cX7_turning 48 = .ok (.bipush 58, 2) := by decide +kernel
theorem dX7_turning_50 : decode cX7_turning 50 = .ok (.iconst 3, 1) := by decide +kernel
theorem dX7_turning_51 : decode cX7_turning 51 = .ok (.iload_n 1, 1) := by decide +kernel
theorem dX7_turning_52 : decode cX7_turning 52 = .ok (.imul, 1) := by decide +kernel
theorem dX7_turning_53 : decode cX7_turning 53 = .ok (.iadd, 1) := by decide +kernel
theorem dX7_turning_54 : decode cX7_turning 54 = .ok (.iconst 1, 1) := by decide +kernel
theorem dX7_turning_55 : decode cX7_turning 55 = .ok (.iadd, 1) := by decide +kernel
theorem dX7_turning_56 : decode cX7_turning 56 = .ok (.iload_n 3, 1) := by decide +kernel
theorem dX7_turning_57 : decode cX7_turning 57 = .ok (.iconst 1, 1) := by decide +kernel
theorem dX7_turning_58 : decode cX7_turning 58 = .ok (.iload 5, 2) := by decide +kernel
theorem dX7_turning_60 : decode cX7_turning 60 = .ok (.ishl, 1) := by decide +kernel
theorem dX7_turning_61 : decode cX7_turning 61 = .ok (.ixor, 1) := by decide +kernel
theorem dX7_turning_62 : decode cX7_turning 62 = .ok (.iastore, 1) := by decide +kernel
theorem dX7_turning_63 : decode cX7_turning 63 = .ok (.iload 4, 2) := by decide +kernel
theorem dX7_turning_65 : decode cX7_turning 65 = .ok (.aload_n 0, 1) := by decide +kernel
theorem dX7_turning_66 : decode cX7_turning 66 = .ok (.iload_n 1, 1) := by decide +kernel
theorem dX7_turning_67 : decode cX7_turning 67 = .ok (.invokevirtual 214, 3) := by decide +kernel
theorem dX7_turning_70 : decode cX7_turning 70 = .ok (.iload_n 2, 1) := by decide +kernel
theorem dX7_turning_71 : decode cX7_turning 71 = .ok (.if_icmp .eq 10, 3) := by decide +kernel
theorem dX7_turning_74 : decode cX7_turning 74 = .ok (.iconst 1, 1) := by decide +kernel
theorem dX7_turning_75 : decode cX7_turning 75 = .ok (.iload 5, 2) := by decide +kernel
theorem dX7_turning_77 : decode cX7_turning 77 = .ok (.ishl, 1) := by decide +kernel
theorem dX7_turning_78 : decode cX7_turning 78 = .ok (.goto 4, 3) := by decide +kernel
theorem dX7_turning_81 : decode cX7_turning 81 = .ok (.iconst 0, 1) := by decide +kernel
theorem dX7_turning_82 : decode cX7_turning 82 = .ok (.ior, 1) := by decide +kernel
theorem dX7_turning_83 : decode cX7_turning 83 = .ok (.istore 4, 2) := by decide +kernel
theorem dX7_turning_85 : decode cX7_turning 85 = .ok (.iinc 5 1, 3) := by decide +kernel
theorem dX7_turning_88 : decode cX7_turning 88 = .ok (.goto (-55), 3) := by decide +kernel
theorem dX7_turning_91 : decode cX7_turning 91 = .ok (.aload_n 0, 1) := by decide +kernel
theorem dX7_turning_92 : decode cX7_turning 92 = .ok (.getfield 7, 3) := by decide +kernel
theorem dX7_turning_95 : decode cX7_turning 95 = .ok (.bipush 58, 2) := by decide +kernel
theorem dX7_turning_97 : decode cX7_turning 97 = .ok (.iconst 3, 1) := by decide +kernel
theorem dX7_turning_98 : decode cX7_turning 98 = .ok (.iload_n 1, 1) := by decide +kernel
theorem dX7_turning_99 : decode cX7_turning 99 = .ok (.imul, 1) := by decide +kernel
theorem dX7_turning_100 : decode cX7_turning 100 = .ok (.iadd, 1) := by decide +kernel
theorem dX7_turning_101 : decode cX7_turning 101 = .ok (.iconst 1, 1) := by decide +kernel
theorem dX7_turning_102 : decode cX7_turning 102 = .ok (.iadd, 1) := by decide +kernel
theorem dX7_turning_103 : decode cX7_turning 103 = .ok (.iload_n 3, 1) := by decide +kernel
theorem dX7_turning_104 : decode cX7_turning 104 = .ok (.iastore, 1) := by decide +kernel
theorem dX7_turning_105 : decode cX7_turning 105 = .ok (.iload 4, 2) := by decide +kernel
theorem dX7_turning_107 : decode cX7_turning 107 = .ok (.ireturn, 1) := by decide +kernel
theorem dX7_findsCold_0 : decode cX7_findsCold 0 = .ok (.iconst 0, 1) := by decide +kernel
theorem dX7_findsCold_1 : decode cX7_findsCold 1 = .ok (.istore_n 2, 1) := by decide +kernel
theorem dX7_findsCold_2 : decode cX7_findsCold 2 = .ok (.iload_n 2, 1) := by decide +kernel
theorem dX7_findsCold_3 : decode cX7_findsCold 3 = .ok (.iload_n 1, 1) := by decide +kernel
theorem dX7_findsCold_4 : decode cX7_findsCold 4 = .ok (.if_icmp .ge 39, 3) := by decide +kernel
theorem dX7_findsCold_7 : decode cX7_findsCold 7 = .ok (.aload_n 0, 1) := by decide +kernel
theorem dX7_findsCold_8 : decode cX7_findsCold 8 = .ok (.getfield 31, 3) := by decide +kernel
theorem dX7_findsCold_11 : decode cX7_findsCold 11 = .ok (.iload_n 2, 1) := by decide +kernel
theorem dX7_findsCold_12 : decode cX7_findsCold 12 = .ok (.aload_n 0, 1) := by decide +kernel
theorem dX7_findsCold_13 : decode cX7_findsCold 13 = .ok (.iconst 1, 1) := by decide +kernel
theorem dX7_findsCold_14 : decode cX7_findsCold 14 = .ok (.aload_n 0, 1) := by decide +kernel
theorem dX7_findsCold_15 : decode cX7_findsCold 15 = .ok (.getfield 7, 3) := by decide +kernel
theorem dX7_findsCold_18 : decode cX7_findsCold 18 = .ok (.bipush 6, 2) := by decide +kernel
theorem dX7_findsCold_20 : decode cX7_findsCold 20 = .ok (.iaload, 1) := by decide +kernel
theorem dX7_findsCold_21 : decode cX7_findsCold 21 = .ok (.iload_n 2, 1) := by decide +kernel
theorem dX7_findsCold_22 : decode cX7_findsCold 22 = .ok (.iadd, 1) := by decide +kernel
theorem dX7_findsCold_23 : decode cX7_findsCold 23 = .ok (.aload_n 0, 1) := by decide +kernel
theorem dX7_findsCold_24 : decode cX7_findsCold 24 = .ok (.getfield 7, 3) := by decide +kernel
theorem dX7_findsCold_27 : decode cX7_findsCold 27 = .ok (.iconst 5, 1) := by decide +kernel
theorem dX7_findsCold_28 : decode cX7_findsCold 28 = .ok (.iaload, 1) := by decide +kernel
theorem dX7_findsCold_29 : decode cX7_findsCold 29 = .ok (.aload_n 0, 1) := by decide +kernel
theorem dX7_findsCold_30 : decode cX7_findsCold 30 = .ok (.invokevirtual 181, 3) := by decide +kernel
theorem dX7_findsCold_33 : decode cX7_findsCold 33 = .ok (.invokevirtual 146, 3) := by decide +kernel
theorem dX7_findsCold_36 : decode cX7_findsCold 36 = .ok (.iastore, 1) := by decide +kernel
theorem dX7_findsCold_37 : decode cX7_findsCold 37 = .ok (.iinc 2 1, 3) := by decide +kernel
theorem dX7_findsCold_40 : decode cX7_findsCold 40 = .ok (.goto (-38), 3) := by decide +kernel
theorem dX7_findsCold_43 : decode cX7_findsCold 43 = .ok (.return_, 1) := by decide +kernel
theorem dX7_livesWith_0 : decode cX7_livesWith 0 = .ok (.aload_n 0, 1) := by decide +kernel
theorem dX7_livesWith_1 : decode cX7_livesWith 1 = .ok (.iload_n 1, 1) := by decide +kernel
theorem dX7_livesWith_2 : decode cX7_livesWith 2 = .ok (.iconst 4, 1) := by decide +kernel
theorem dX7_livesWith_3 : decode cX7_livesWith 3 = .ok (.invokevirtual 150, 3) := by decide +kernel
theorem dX7_livesWith_6 : decode cX7_livesWith 6 = .ok (.istore 4, 2) := by decide +kernel
theorem dX7_livesWith_8 : decode cX7_livesWith 8 = .ok (.aload_n 0, 1) := by decide +kernel
theorem dX7_livesWith_9 : decode cX7_livesWith 9 = .ok (.iload_n 1, 1) := by decide +kernel
theorem dX7_livesWith_10 : decode cX7_livesWith 10 = .ok (.iconst 5, 1) := by decide +kernel
theorem dX7_livesWith_11 : decode cX7_livesWith 11 = .ok (.invokevirtual 150, 3) := by decide +kernel
theorem dX7_livesWith_14 : decode cX7_livesWith 14 = .ok (.istore 5, 2) := by decide +kernel
theorem dX7_livesWith_16 : decode cX7_livesWith 16 = .ok (.aload_n 0, 1) := by decide +kernel
theorem dX7_livesWith_17 : decode cX7_livesWith 17 = .ok (.iload_n 1, 1) := by decide +kernel
theorem dX7_livesWith_18 : decode cX7_livesWith 18 = .ok (.iconst 4, 1) := by decide +kernel
theorem dX7_livesWith_19 : decode cX7_livesWith 19 = .ok (.iload_n 2, 1) := by decide +kernel
theorem dX7_livesWith_20 : decode cX7_livesWith 20 = .ok (.invokevirtual 186, 3) := by decide +kernel
theorem dX7_livesWith_23 : decode cX7_livesWith 23 = .ok (.iconst 0, 1) := by decide +kernel
theorem dX7_livesWith_24 : decode cX7_livesWith 24 = .ok (.istore 6, 2) := by decide +kernel
theorem dX7_livesWith_26 : decode cX7_livesWith 26 = .ok (.iload 6, 2) := by decide +kernel
theorem dX7_livesWith_28 : decode cX7_livesWith 28 = .ok (.iload_n 3, 1) := by decide +kernel
theorem dX7_livesWith_29 : decode cX7_livesWith 29 = .ok (.if_icmp .ge 67, 3) := by decide +kernel
theorem dX7_livesWith_32 : decode cX7_livesWith 32 = .ok (.aload_n 0, 1) := by decide +kernel
theorem dX7_livesWith_33 : decode cX7_livesWith 33 = .ok (.iload_n 1, 1) := by decide +kernel
theorem dX7_livesWith_34 : decode cX7_livesWith 34 = .ok (.invokevirtual 153, 3) := by decide +kernel
theorem dX7_livesWith_37 : decode cX7_livesWith 37 = .ok (.ifCond .ne 59, 3) := by decide +kernel
theorem dX7_livesWith_40 : decode cX7_livesWith 40 = .ok (.aload_n 0, 1) := by decide +kernel
theorem dX7_livesWith_41 : decode cX7_livesWith 41 = .ok (.getfield 31, 3) := by decide +kernel
theorem dX7_livesWith_44 : decode cX7_livesWith 44 = .ok (.iload 6, 2) := by decide +kernel
theorem dX7_livesWith_46 : decode cX7_livesWith 46 = .ok (.iaload, 1) := by decide +kernel
theorem dX7_livesWith_47 : decode cX7_livesWith 47 = .ok (.ifCond .ne 7, 3) := by decide +kernel
theorem dX7_livesWith_50 : decode cX7_livesWith 50 = .ok (.iconst 1, 1) := by decide +kernel
theorem dX7_livesWith_51 : decode cX7_livesWith 51 = .ok (.goto 16, 3) := by decide +kernel
theorem dX7_livesWith_54 : decode cX7_livesWith 54 = .ok (.aload_n 0, 1) := by decide +kernel
theorem dX7_livesWith_55 : decode cX7_livesWith 55 = .ok (.iload_n 1, 1) := by decide +kernel
theorem dX7_livesWith_56 : decode cX7_livesWith 56 = .ok (.aload_n 0, 1) := by decide +kernel
theorem dX7_livesWith_57 : decode cX7_livesWith 57 = .ok (.getfield 31, 3) := by decide +kernel
theorem dX7_livesWith_60 : decode cX7_livesWith 60 = .ok (.iload 6, 2) := by decide +kernel
theorem dX7_livesWith_62 : decode cX7_livesWith 62 = .ok (.iaload, 1) := by decide +kernel
theorem dX7_livesWith_63 : decode cX7_livesWith 63 = .ok (.invokevirtual 197, 3) := by decide +kernel
theorem dX7_livesWith_66 : decode cX7_livesWith 66 = .ok (.ineg, 1) := by decide +kernel
theorem dX7_livesWith_67 : decode cX7_livesWith 67 = .ok (.istore 7, 2) := by decide +kernel
theorem dX7_livesWith_69 : decode cX7_livesWith 69 = .ok (.aload_n 0, 1) := by decide +kernel
theorem dX7_livesWith_70 : decode cX7_livesWith 70 = .ok (.iload_n 1, 1) := by decide +kernel
theorem dX7_livesWith_71 : decode cX7_livesWith 71 = .ok (.iconst 5, 1) := by decide +kernel
theorem dX7_livesWith_72 : decode cX7_livesWith 72 = .ok (.aload_n 0, 1) := by decide +kernel
theorem dX7_livesWith_73 : decode cX7_livesWith 73 = .ok (.iload_n 1, 1) := by decide +kernel
theorem dX7_livesWith_74 : decode cX7_livesWith 74 = .ok (.iconst 5, 1) := by decide +kernel
theorem dX7_livesWith_75 : decode cX7_livesWith 75 = .ok (.invokevirtual 150, 3) := by decide +kernel
theorem dX7_livesWith_78 : decode cX7_livesWith 78 = .ok (.iload 7, 2) := by decide +kernel
theorem dX7_livesWith_80 : decode cX7_livesWith 80 = .ok (.iadd, 1) := by decide +kernel
theorem dX7_livesWith_81 : decode cX7_livesWith 81 = .ok (.iconst 0, 1) := by decide +kernel
theorem dX7_livesWith_82 : decode cX7_livesWith 82 = .ok (.bipush 99, 2) := by decide +kernel
theorem dX7_livesWith_84 : decode cX7_livesWith 84 = .ok (.invokestatic 143, 3) := by decide +kernel
theorem dX7_livesWith_87 : decode cX7_livesWith 87 = .ok (.invokevirtual 186, 3) := by decide +kernel
theorem dX7_livesWith_90 : decode cX7_livesWith 90 = .ok (.iinc 6 1, 3) := by decide +kernel
theorem dX7_livesWith_93 : decode cX7_livesWith 93 = .ok (.goto (-67), 3) := by decide +kernel
theorem dX7_livesWith_96 : decode cX7_livesWith 96 = .ok (.aload_n 0, 1) := by decide +kernel
theorem dX7_livesWith_97 : decode cX7_livesWith 97 = .ok (.iload_n 1, 1) := by decide +kernel
theorem dX7_livesWith_98 : decode cX7_livesWith 98 = .ok (.invokevirtual 153, 3) := by decide +kernel
theorem dX7_livesWith_101 : decode cX7_livesWith 101 = .ok (.ifCond .ne 7, 3) := by decide +kernel
theorem dX7_livesWith_104 : decode cX7_livesWith 104 = .ok (.iconst 1, 1) := by decide +kernel
theorem dX7_livesWith_105 : decode cX7_livesWith 105 = .ok (.goto 4, 3) := by decide +kernel
theorem dX7_livesWith_108 : decode cX7_livesWith 108 = .ok (.iconst 0, 1) := by decide +kernel
theorem dX7_livesWith_109 : decode cX7_livesWith 109 = .ok (.istore 6, 2) := by decide +kernel
theorem dX7_livesWith_111 : decode cX7_livesWith 111 = .ok (.aload_n 0, 1) := by decide +kernel
theorem dX7_livesWith_112 : decode cX7_livesWith 112 = .ok (.iload_n 1, 1) := by decide +kernel
theorem dX7_livesWith_113 : decode cX7_livesWith 113 = .ok (.iconst 4, 1) := by decide +kernel
theorem dX7_livesWith_114 : decode cX7_livesWith 114 = .ok (.iload 4, 2) := by decide +kernel
theorem dX7_livesWith_116 : decode cX7_livesWith 116 = .ok (.invokevirtual 186, 3) := by decide +kernel
theorem dX7_livesWith_119 : decode cX7_livesWith 119 = .ok (.aload_n 0, 1) := by decide +kernel
theorem dX7_livesWith_120 : decode cX7_livesWith 120 = .ok (.iload_n 1, 1) := by decide +kernel
theorem dX7_livesWith_121 : decode cX7_livesWith 121 = .ok (.iconst 5, 1) := by decide +kernel
theorem dX7_livesWith_122 : decode cX7_livesWith 122 = .ok (.iload 5, 2) := by decide +kernel
theorem dX7_livesWith_124 : decode cX7_livesWith 124 = .ok (.invokevirtual 186, 3) := by decide +kernel
theorem dX7_livesWith_127 : decode cX7_livesWith 127 = .ok (.iload 6, 2) := by decide +kernel
theorem dX7_livesWith_129 : decode cX7_livesWith 129 = .ok (.ireturn, 1) := by decide +kernel
theorem dX7_spends_0 : decode cX7_spends 0 = .ok (.aload_n 0, 1) := by decide +kernel
theorem dX7_spends_1 : decode cX7_spends 1 = .ok (.iload_n 1, 1) := by decide +kernel
theorem dX7_spends_2 : decode cX7_spends 2 = .ok (.invokevirtual 189, 3) := by decide +kernel
theorem dX7_spends_5 : decode cX7_spends 5 = .ok (.ifCond .eq 15, 3) := by decide +kernel
theorem dX7_spends_8 : decode cX7_spends 8 = .ok (.iload_n 2, 1) := by decide +kernel
theorem dX7_spends_9 : decode cX7_spends 9 = .ok (.i2l, 1) := by decide +kernel
theorem dX7_spends_10 : decode cX7_spends 10 = .ok (.lconst 0, 1) := by decide +kernel
theorem dX7_spends_11 : decode cX7_spends 11 = .ok (.ldc2_w 223, 3) := by decide +kernel
theorem dX7_spends_14 : decode cX7_spends 14 = .ok (.invokestatic 53, 3) := by decide +kernel
theorem dX7_spends_17 : decode cX7_spends 17 = .ok (.ifCond .ne 9, 3) := by decide +kernel
theorem dX7_spends_20 : decode cX7_spends 20 = .ok (.aload_n 0, 1) := by decide +kernel
theorem dX7_spends_21 : decode cX7_spends 21 = .ok (.iconst 1, 1) := by decide +kernel
theorem dX7_spends_22 : decode cX7_spends 22 = .ok (.invokevirtual 130, 3) := by decide +kernel
theorem dX7_spends_25 : decode cX7_spends 25 = .ok (.ireturn, 1) := by decide +kernel
theorem dX7_spends_26 : decode cX7_spends 26 = .ok (.aload_n 0, 1) := by decide +kernel
theorem dX7_spends_27 : decode cX7_spends 27 = .ok (.iload_n 2, 1) := by decide +kernel
theorem dX7_spends_28 : decode cX7_spends 28 = .ok (.invokevirtual 246, 3) := by decide +kernel
theorem dX7_spends_31 : decode cX7_spends 31 = .ok (.aload_n 0, 1) := by decide +kernel
theorem dX7_spends_32 : decode cX7_spends 32 = .ok (.iload_n 1, 1) := by decide +kernel
theorem dX7_spends_33 : decode cX7_spends 33 = .ok (.iconst 2, 1) := by decide +kernel
theorem dX7_spends_34 : decode cX7_spends 34 = .ok (.invokevirtual 150, 3) := by decide +kernel
theorem dX7_spends_37 : decode cX7_spends 37 = .ok (.aload_n 0, 1) := by decide +kernel
theorem dX7_spends_38 : decode cX7_spends 38 = .ok (.iload_n 1, 1) := by decide +kernel
theorem dX7_spends_39 : decode cX7_spends 39 = .ok (.iconst 3, 1) := by decide +kernel
theorem dX7_spends_40 : decode cX7_spends 40 = .ok (.invokevirtual 150, 3) := by decide +kernel
theorem dX7_spends_43 : decode cX7_spends 43 = .ok (.iadd, 1) := by decide +kernel
theorem dX7_spends_44 : decode cX7_spends 44 = .ok (.istore_n 3, 1) := by decide +kernel
theorem dX7_spends_45 : decode cX7_spends 45 = .ok (.iload_n 3, 1) := by decide +kernel
theorem dX7_spends_46 : decode cX7_spends 46 = .ok (.ifCond .le 32, 3) := by decide +kernel
theorem dX7_spends_49 : decode cX7_spends 49 = .ok (.aload_n 0, 1) := by decide +kernel
theorem dX7_spends_50 : decode cX7_spends 50 = .ok (.iload_n 1, 1) := by decide +kernel
theorem dX7_spends_51 : decode cX7_spends 51 = .ok (.aload_n 0, 1) := by decide +kernel
theorem dX7_spends_52 : decode cX7_spends 52 = .ok (.iload_n 1, 1) := by decide +kernel
theorem dX7_spends_53 : decode cX7_spends 53 = .ok (.iconst 4, 1) := by decide +kernel
theorem dX7_spends_54 : decode cX7_spends 54 = .ok (.invokevirtual 150, 3) := by decide +kernel
theorem dX7_spends_57 : decode cX7_spends 57 = .ok (.iload_n 3, 1) := by decide +kernel
theorem dX7_spends_58 : decode cX7_spends 58 = .ok (.iadd, 1) := by decide +kernel
theorem dX7_spends_59 : decode cX7_spends 59 = .ok (.iconst 0, 1) := by decide +kernel
theorem dX7_spends_60 : decode cX7_spends 60 = .ok (.bipush 99, 2) := by decide +kernel
theorem dX7_spends_62 : decode cX7_spends 62 = .ok (.invokestatic 143, 3) := by decide +kernel
theorem dX7_spends_65 : decode cX7_spends 65 = .ok (.iload_n 2, 1) := by decide +kernel
theorem dX7_spends_66 : decode cX7_spends 66 = .ok (.invokevirtual 249, 3) := by decide +kernel
theorem dX7_spends_69 : decode cX7_spends 69 = .ok (.ifCond .ne 9, 3) := by decide +kernel
theorem dX7_spends_72 : decode cX7_spends 72 = .ok (.iinc 3 (-1), 3) := by decide +kernel
theorem dX7_spends_75 : decode cX7_spends 75 = .ok (.goto (-30), 3) := by decide +kernel
theorem dX7_spends_78 : decode cX7_spends 78 = .ok (.iload_n 3, 1) := by decide +kernel
theorem dX7_spends_79 : decode cX7_spends 79 = .ok (.ireturn, 1) := by decide +kernel
theorem dX7_tries_0 : decode cX7_tries 0 = .ok (.aload_n 0, 1) := by decide +kernel
theorem dX7_tries_1 : decode cX7_tries 1 = .ok (.invokevirtual 237, 3) := by decide +kernel
theorem dX7_tries_4 : decode cX7_tries 4 = .ok (.iconst 0, 1) := by decide +kernel
theorem dX7_tries_5 : decode cX7_tries 5 = .ok (.istore_n 3, 1) := by decide +kernel
theorem dX7_tries_6 : decode cX7_tries 6 = .ok (.iconst 0, 1) := by decide +kernel
theorem dX7_tries_7 : decode cX7_tries 7 = .ok (.istore 4, 2) := by decide +kernel
theorem dX7_tries_9 : decode cX7_tries 9 = .ok (.iload 4, 2) := by decide +kernel
theorem dX7_tries_11 : decode cX7_tries 11 = .ok (.iload_n 2, 1) := by decide +kernel
theorem dX7_tries_12 : decode cX7_tries 12 = .ok (.if_icmp .ge 117, 3) := by decide +kernel
theorem dX7_tries_15 : decode cX7_tries 15 = .ok (.iload_n 1, 1) := by decide +kernel
theorem dX7_tries_16 : decode cX7_tries 16 = .ok (.istore 5, 2) := by decide +kernel
theorem dX7_tries_18 : decode cX7_tries 18 = .ok (.iconst 1, 1) := by decide +kernel
theorem dX7_tries_19 : decode cX7_tries 19 = .ok (.istore 6, 2) := by decide +kernel
theorem dX7_tries_21 : decode cX7_tries 21 = .ok (.iconst 1, 1) := by decide +kernel
theorem dX7_tries_22 : decode cX7_tries 22 = .ok (.istore 7, 2) := by decide +kernel
theorem dX7_tries_24 : decode cX7_tries 24 = .ok (.iload 7, 2) := by decide +kernel
theorem dX7_tries_26 : decode cX7_tries 26 = .ok (.aload_n 0, 1) := by decide +kernel
theorem dX7_tries_27 : decode cX7_tries 27 = .ok (.getfield 253, 3) := by decide +kernel
theorem dX7_tries_30 : decode cX7_tries 30 = .ok (.if_icmp .ge 15, 3) := by decide +kernel
theorem dX7_tries_33 : decode cX7_tries 33 = .ok (.iload 6, 2) := by decide +kernel
theorem dX7_tries_35 : decode cX7_tries 35 = .ok (.iload_n 2, 1) := by decide +kernel
theorem dX7_tries_36 : decode cX7_tries 36 = .ok (.imul, 1) := by decide +kernel
theorem dX7_tries_37 : decode cX7_tries 37 = .ok (.istore 6, 2) := by decide +kernel
theorem dX7_tries_39 : decode cX7_tries 39 = .ok (.iinc 7 1, 3) := by decide +kernel
theorem dX7_tries_42 : decode cX7_tries 42 = .ok (.goto (-18), 3) := by decide +kernel
theorem dX7_tries_45 : decode cX7_tries 45 = .ok (.iconst 0, 1) := by decide +kernel
theorem dX7_tries_46 : decode cX7_tries 46 = .ok (.istore 7, 2) := by decide +kernel
theorem dX7_tries_48 : decode cX7_tries 48 = .ok (.iload 7, 2) := by decide +kernel
theorem dX7_tries_50 : decode cX7_tries 50 = .ok (.aload_n 0, 1) := by decide +kernel
theorem dX7_tries_51 : decode cX7_tries 51 = .ok (.getfield 253, 3) := by decide +kernel
theorem dX7_tries_54 : decode cX7_tries 54 = .ok (.if_icmp .ge 65, 3) := by decide +kernel
theorem dX7_tries_57 : decode cX7_tries 57 = .ok (.iload_n 3, 1) := by decide +kernel
theorem dX7_tries_58 : decode cX7_tries 58 = .ok (.iload 5, 2) := by decide +kernel
theorem dX7_tries_60 : decode cX7_tries 60 = .ok (.iload 6, 2) := by decide +kernel
theorem dX7_tries_62 : decode cX7_tries 62 = .ok (.idiv, 1) := by decide +kernel
theorem dX7_tries_63 : decode cX7_tries 63 = .ok (.iload_n 2, 1) := by decide +kernel
theorem dX7_tries_64 : decode cX7_tries 64 = .ok (.irem, 1) := by decide +kernel
theorem dX7_tries_65 : decode cX7_tries 65 = .ok (.iload 4, 2) := by decide +kernel
theorem dX7_tries_67 : decode cX7_tries 67 = .ok (.if_icmp .ne 21, 3) := by decide +kernel
theorem dX7_tries_70 : decode cX7_tries 70 = .ok (.aload_n 0, 1) := by decide +kernel
theorem dX7_tries_71 : decode cX7_tries 71 = .ok (.aload_n 0, 1) := by decide +kernel
theorem dX7_tries_72 : decode cX7_tries 72 = .ok (.getfield 34, 3) := by decide +kernel
theorem dX7_tries_75 : decode cX7_tries 75 = .ok (.iload 7, 2) := by decide +kernel
theorem dX7_tries_77 : decode cX7_tries 77 = .ok (.iaload, 1) := by decide +kernel
theorem dX7_tries_78 : decode cX7_tries 78 = .ok (.invokevirtual 217, 3) := by decide +kernel
theorem dX7_tries_81 : decode cX7_tries 81 = .ok (.ifCond .eq 7, 3) := by decide +kernel
theorem dX7_tries_84 : decode cX7_tries 84 = .ok (.iconst 1, 1) := by decide +kernel
theorem dX7_tries_85 : decode cX7_tries 85 = .ok (.goto 4, 3) := by decide +kernel
theorem dX7_tries_88 : decode cX7_tries 88 = .ok (.iconst 0, 1) := by decide +kernel
theorem dX7_tries_89 : decode cX7_tries 89 = .ok (.iadd, 1) := by decide +kernel
theorem dX7_tries_90 : decode cX7_tries 90 = .ok (.istore_n 3, 1) := by decide +kernel
theorem dX7_tries_91 : decode cX7_tries 91 = .ok (.iload 5, 2) := by decide +kernel
theorem dX7_tries_93 : decode cX7_tries 93 = .ok (.iload 6, 2) := by decide +kernel
theorem dX7_tries_95 : decode cX7_tries 95 = .ok (.irem, 1) := by decide +kernel
theorem dX7_tries_96 : decode cX7_tries 96 = .ok (.istore 5, 2) := by decide +kernel
theorem dX7_tries_98 : decode cX7_tries 98 = .ok (.iload 6, 2) := by decide +kernel
theorem dX7_tries_100 : decode cX7_tries 100 = .ok (.iload_n 2, 1) := by decide +kernel
theorem dX7_tries_101 : decode cX7_tries 101 = .ok (.iconst 1, 1) := by decide +kernel
theorem dX7_tries_102 : decode cX7_tries 102 = .ok (.if_icmp .le 7, 3) := by decide +kernel
theorem dX7_tries_105 : decode cX7_tries 105 = .ok (.iload_n 2, 1) := by decide +kernel
theorem dX7_tries_106 : decode cX7_tries 106 = .ok (.goto 4, 3) := by decide +kernel
theorem dX7_tries_109 : decode cX7_tries 109 = .ok (.iconst 1, 1) := by decide +kernel
theorem dX7_tries_110 : decode cX7_tries 110 = .ok (.idiv, 1) := by decide +kernel
theorem dX7_tries_111 : decode cX7_tries 111 = .ok (.istore 6, 2) := by decide +kernel
theorem dX7_tries_113 : decode cX7_tries 113 = .ok (.iinc 7 1, 3) := by decide +kernel
theorem dX7_tries_116 : decode cX7_tries 116 = .ok (.goto (-68), 3) := by decide +kernel
theorem dX7_tries_119 : decode cX7_tries 119 = .ok (.aload_n 0, 1) := by decide +kernel
theorem dX7_tries_120 : decode cX7_tries 120 = .ok (.invokevirtual 220, 3) := by decide +kernel
theorem dX7_tries_123 : decode cX7_tries 123 = .ok (.iinc 4 1, 3) := by decide +kernel
theorem dX7_tries_126 : decode cX7_tries 126 = .ok (.goto (-117), 3) := by decide +kernel
theorem dX7_tries_129 : decode cX7_tries 129 = .ok (.aload_n 0, 1) := by decide +kernel
theorem dX7_tries_130 : decode cX7_tries 130 = .ok (.invokevirtual 228, 3) := by decide +kernel
theorem dX7_tries_133 : decode cX7_tries 133 = .ok (.istore 4, 2) := by decide +kernel
theorem dX7_tries_135 : decode cX7_tries 135 = .ok (.aload_n 0, 1) := by decide +kernel
theorem dX7_tries_136 : decode cX7_tries 136 = .ok (.invokevirtual 243, 3) := by decide +kernel
theorem dX7_tries_139 : decode cX7_tries 139 = .ok (.aload_n 0, 1) := by decide +kernel
theorem dX7_tries_140 : decode cX7_tries 140 = .ok (.getfield 256, 3) := by decide +kernel
theorem dX7_tries_143 : decode cX7_tries 143 = .ok (.ifCond .lt 28, 3) := by decide +kernel
theorem dX7_tries_146 : decode cX7_tries 146 = .ok (.iload_n 3, 1) := by decide +kernel
theorem dX7_tries_147 : decode cX7_tries 147 = .ok (.aload_n 0, 1) := by decide +kernel
theorem dX7_tries_148 : decode cX7_tries 148 = .ok (.getfield 259, 3) := by decide +kernel
theorem dX7_tries_151 : decode cX7_tries 151 = .ok (.if_icmp .gt 20, 3) := by decide +kernel
theorem dX7_tries_154 : decode cX7_tries 154 = .ok (.iload_n 3, 1) := by decide +kernel
theorem dX7_tries_155 : decode cX7_tries 155 = .ok (.aload_n 0, 1) := by decide +kernel
theorem dX7_tries_156 : decode cX7_tries 156 = .ok (.getfield 259, 3) := by decide +kernel
theorem dX7_tries_159 : decode cX7_tries 159 = .ok (.if_icmp .ne 28, 3) := by decide +kernel
theorem dX7_tries_162 : decode cX7_tries 162 = .ok (.iload 4, 2) := by decide +kernel
theorem dX7_tries_164 : decode cX7_tries 164 = .ok (.aload_n 0, 1) := by decide +kernel
theorem dX7_tries_165 : decode cX7_tries 165 = .ok (.getfield 262, 3) := by decide +kernel
theorem dX7_tries_168 : decode cX7_tries 168 = .ok (.if_icmp .le 19, 3) := by decide +kernel
theorem dX7_tries_171 : decode cX7_tries 171 = .ok (.aload_n 0, 1) := by decide +kernel
theorem dX7_tries_172 : decode cX7_tries 172 = .ok (.iload_n 3, 1) := by decide +kernel
theorem dX7_tries_173 : decode cX7_tries 173 = .ok (.putfield 259, 3) := by decide +kernel
theorem dX7_tries_176 : decode cX7_tries 176 = .ok (.aload_n 0, 1) := by decide +kernel
theorem dX7_tries_177 : decode cX7_tries 177 = .ok (.iload 4, 2) := by decide +kernel
theorem dX7_tries_179 : decode cX7_tries 179 = .ok (.putfield 262, 3) := by decide +kernel
theorem dX7_tries_182 : decode cX7_tries 182 = .ok (.aload_n 0, 1) := by decide +kernel
theorem dX7_tries_183 : decode cX7_tries 183 = .ok (.iload_n 1, 1) := by decide +kernel
theorem dX7_tries_184 : decode cX7_tries 184 = .ok (.putfield 256, 3) := by decide +kernel
theorem dX7_tries_187 : decode cX7_tries 187 = .ok (.return_, 1) := by decide +kernel
theorem dX7_plan_0 : decode cX7_plan 0 = .ok (.aload_n 0, 1) := by decide +kernel
theorem dX7_plan_1 : decode cX7_plan 1 = .ok (.iconst 0, 1) := by decide +kernel
theorem dX7_plan_2 : decode cX7_plan 2 = .ok (.putfield 253, 3) := by decide +kernel
theorem dX7_plan_5 : decode cX7_plan 5 = .ok (.iload_n 1, 1) := by decide +kernel
theorem dX7_plan_6 : decode cX7_plan 6 = .ok (.i2l, 1) := by decide +kernel
theorem dX7_plan_7 : decode cX7_plan 7 = .ok (.lconst 1, 1) := by decide +kernel
theorem dX7_plan_8 : decode cX7_plan 8 = .ok (.ldc2_w 265, 3) := by decide +kernel
theorem dX7_plan_11 : decode cX7_plan 11 = .ok (.invokestatic 53, 3) := by decide +kernel
theorem dX7_plan_14 : decode cX7_plan 14 = .ok (.ifCond .eq 7, 3) := by decide +kernel
theorem dX7_plan_17 : decode cX7_plan 17 = .ok (.iload_n 1, 1) := by decide +kernel
theorem dX7_plan_18 : decode cX7_plan 18 = .ok (.goto 4, 3) := by decide +kernel
theorem dX7_plan_21 : decode cX7_plan 21 = .ok (.iconst 0, 1) := by decide +kernel
theorem dX7_plan_22 : decode cX7_plan 22 = .ok (.istore 4, 2) := by decide +kernel
theorem dX7_plan_24 : decode cX7_plan 24 = .ok (.iload 4, 2) := by decide +kernel
theorem dX7_plan_26 : decode cX7_plan 26 = .ok (.ifCond .le 31, 3) := by decide +kernel
theorem dX7_plan_29 : decode cX7_plan 29 = .ok (.iload_n 2, 1) := by decide +kernel
theorem dX7_plan_30 : decode cX7_plan 30 = .ok (.i2l, 1) := by decide +kernel
theorem dX7_plan_31 : decode cX7_plan 31 = .ok (.lconst 1, 1) := by decide +kernel
theorem dX7_plan_32 : decode cX7_plan 32 = .ok (.ldc2_w 212, 3) := by decide +kernel
theorem dX7_plan_35 : decode cX7_plan 35 = .ok (.invokestatic 53, 3) := by decide +kernel
theorem dX7_plan_38 : decode cX7_plan 38 = .ok (.ifCond .eq 19, 3) := by decide +kernel
theorem dX7_plan_41 : decode cX7_plan 41 = .ok (.iload 4, 2) := by decide +kernel
theorem dX7_plan_43 : decode cX7_plan 43 = .ok (.aload_n 0, 1) := by decide +kernel
theorem dX7_plan_44 : decode cX7_plan 44 = .ok (.getfield 7, 3) := by decide +kernel
theorem dX7_plan_47 : decode cX7_plan 47 = .ok (.iconst 1, 1) := by decide +kernel
theorem dX7_plan_48 : decode cX7_plan 48 = .ok (.iaload, 1) := by decide +kernel
theorem dX7_plan_49 : decode cX7_plan 49 = .ok (.ishr, 1) := by decide +kernel
theorem dX7_plan_50 : decode cX7_plan 50 = .ok (.ifCond .ne 7, 3) := by decide +kernel
theorem dX7_plan_53 : decode cX7_plan 53 = .ok (.iconst 1, 1) := by decide +kernel
theorem dX7_plan_54 : decode cX7_plan 54 = .ok (.goto 4, 3) := by decide +kernel
theorem dX7_plan_57 : decode cX7_plan 57 = .ok (.iconst 0, 1) := by decide +kernel
theorem dX7_plan_58 : decode cX7_plan 58 = .ok (.istore 5, 2) := by decide +kernel
theorem dX7_plan_60 : decode cX7_plan 60 = .ok (.iconst 0, 1) := by decide +kernel
theorem dX7_plan_61 : decode cX7_plan 61 = .ok (.istore 6, 2) := by decide +kernel
theorem dX7_plan_63 : decode cX7_plan 63 = .ok (.iload 6, 2) := by decide +kernel
theorem dX7_plan_65 : decode cX7_plan 65 = .ok (.bipush 6, 2) := by decide +kernel
theorem dX7_plan_67 : decode cX7_plan 67 = .ok (.if_icmp .ge 70, 3) := by decide +kernel
theorem dX7_plan_70 : decode cX7_plan 70 = .ok (.iload 5, 2) := by decide +kernel
theorem dX7_plan_72 : decode cX7_plan 72 = .ok (.ifCond .eq 65, 3) := by decide +kernel
theorem dX7_plan_75 : decode cX7_plan 75 = .ok (.iload 4, 2) := by decide +kernel
theorem dX7_plan_77 : decode cX7_plan 77 = .ok (.iload 6, 2) := by decide +kernel
theorem dX7_plan_79 : decode cX7_plan 79 = .ok (.ishr, 1) := by decide +kernel
theorem dX7_plan_80 : decode cX7_plan 80 = .ok (.iconst 1, 1) := by decide +kernel
theorem dX7_plan_81 : decode cX7_plan 81 = .ok (.iand, 1) := by decide +kernel
theorem dX7_plan_82 : decode cX7_plan 82 = .ok (.iconst 1, 1) := by decide +kernel
theorem dX7_plan_83 : decode cX7_plan 83 = .ok (.if_icmp .ne 48, 3) := by decide +kernel
theorem dX7_plan_86 : decode cX7_plan 86 = .ok (.aload_n 0, 1) := by decide +kernel
theorem dX7_plan_87 : decode cX7_plan 87 = .ok (.getfield 253, 3) := by decide +kernel
theorem dX7_plan_90 : decode cX7_plan 90 = .ok (.iconst 3, 1) := by decide +kernel
theorem dX7_plan_91 : decode cX7_plan 91 = .ok (.if_icmp .ge 7, 3) := by decide +kernel
theorem dX7_plan_94 : decode cX7_plan 94 = .ok (.iconst 1, 1) := by decide +kernel
theorem dX7_plan_95 : decode cX7_plan 95 = .ok (.goto 4, 3) := by decide +kernel
theorem dX7_plan_98 : decode cX7_plan 98 = .ok (.iconst 0, 1) := by decide +kernel
theorem dX7_plan_99 : decode cX7_plan 99 = .ok (.istore 5, 2) := by decide +kernel
theorem dX7_plan_101 : decode cX7_plan 101 = .ok (.aload_n 0, 1) := by decide +kernel
theorem dX7_plan_102 : decode cX7_plan 102 = .ok (.getfield 34, 3) := by decide +kernel
theorem dX7_plan_105 : decode cX7_plan 105 = .ok (.iload 5, 2) := by decide +kernel
theorem dX7_plan_107 : decode cX7_plan 107 = .ok (.ifCond .eq 10, 3) := by decide +kernel
theorem dX7_plan_110 : decode cX7_plan 110 = .ok (.aload_n 0, 1) := by decide +kernel
theorem dX7_plan_111 : decode cX7_plan 111 = .ok (.getfield 253, 3) := by decide +kernel
theorem dX7_plan_114 : decode cX7_plan 114 = .ok (.goto 4, 3) := by decide +kernel
theorem dX7_plan_117 : decode cX7_plan 117 = .ok (.iconst 0, 1) := by decide +kernel
theorem dX7_plan_118 : decode cX7_plan 118 = .ok (.iload 6, 2) := by decide +kernel
theorem dX7_plan_120 : decode cX7_plan 120 = .ok (.iastore, 1) := by decide +kernel
theorem dX7_plan_121 : decode cX7_plan 121 = .ok (.aload_n 0, 1) := by decide +kernel
theorem dX7_plan_122 : decode cX7_plan 122 = .ok (.dup, 1) := by decide +kernel
theorem dX7_plan_123 : decode cX7_plan 123 = .ok (.getfield 253, 3) := by decide +kernel
theorem dX7_plan_126 : decode cX7_plan 126 = .ok (.iconst 1, 1) := by decide +kernel
theorem dX7_plan_127 : decode cX7_plan 127 = .ok (.iadd, 1) := by decide +kernel
theorem dX7_plan_128 : decode cX7_plan 128 = .ok (.putfield 253, 3) := by decide +kernel
theorem dX7_plan_131 : decode cX7_plan 131 = .ok (.iinc 6 1, 3) := by decide +kernel
theorem dX7_plan_134 : decode cX7_plan 134 = .ok (.goto (-71), 3) := by decide +kernel
theorem dX7_plan_137 : decode cX7_plan 137 = .ok (.iload 5, 2) := by decide +kernel
theorem dX7_plan_139 : decode cX7_plan 139 = .ok (.ifCond .eq 21, 3) := by decide +kernel
theorem dX7_plan_142 : decode cX7_plan 142 = .ok (.iload_n 3, 1) := by decide +kernel
theorem dX7_plan_143 : decode cX7_plan 143 = .ok (.i2l, 1) := by decide +kernel
theorem dX7_plan_144 : decode cX7_plan 144 = .ok (.ldc2_w 267, 3) := by decide +kernel
theorem dX7_plan_147 : decode cX7_plan 147 = .ok (.aload_n 0, 1) := by decide +kernel
theorem dX7_plan_148 : decode cX7_plan 148 = .ok (.getfield 253, 3) := by decide +kernel
theorem dX7_plan_151 : decode cX7_plan 151 = .ok (.iconst 1, 1) := by decide +kernel
theorem dX7_plan_152 : decode cX7_plan 152 = .ok (.isub, 1) := by decide +kernel
theorem dX7_plan_153 : decode cX7_plan 153 = .ok (.i2l, 1) := by decide +kernel
theorem dX7_plan_154 : decode cX7_plan 154 = .ok (.invokestatic 53, 3) := by decide +kernel
theorem dX7_plan_157 : decode cX7_plan 157 = .ok (.ifCond .ne 9, 3) := by decide +kernel
theorem dX7_plan_160 : decode cX7_plan 160 = .ok (.aload_n 0, 1) := by decide +kernel
theorem dX7_plan_161 : decode cX7_plan 161 = .ok (.iconst 1, 1) := by decide +kernel
theorem dX7_plan_162 : decode cX7_plan 162 = .ok (.invokevirtual 130, 3) := by decide +kernel
theorem dX7_plan_165 : decode cX7_plan 165 = .ok (.ireturn, 1) := by decide +kernel
theorem dX7_plan_166 : decode cX7_plan 166 = .ok (.iconst 1, 1) := by decide +kernel
theorem dX7_plan_167 : decode cX7_plan 167 = .ok (.istore 6, 2) := by decide +kernel
theorem dX7_plan_169 : decode cX7_plan 169 = .ok (.iconst 0, 1) := by decide +kernel
theorem dX7_plan_170 : decode cX7_plan 170 = .ok (.istore 7, 2) := by decide +kernel
theorem dX7_plan_172 : decode cX7_plan 172 = .ok (.iload 7, 2) := by decide +kernel
theorem dX7_plan_174 : decode cX7_plan 174 = .ok (.aload_n 0, 1) := by decide +kernel
theorem dX7_plan_175 : decode cX7_plan 175 = .ok (.getfield 253, 3) := by decide +kernel
theorem dX7_plan_178 : decode cX7_plan 178 = .ok (.if_icmp .ge 15, 3) := by decide +kernel
theorem dX7_plan_181 : decode cX7_plan 181 = .ok (.iload 6, 2) := by decide +kernel
theorem dX7_plan_183 : decode cX7_plan 183 = .ok (.iload_n 2, 1) := by decide +kernel
theorem dX7_plan_184 : decode cX7_plan 184 = .ok (.imul, 1) := by decide +kernel
theorem dX7_plan_185 : decode cX7_plan 185 = .ok (.istore 6, 2) := by decide +kernel
theorem dX7_plan_187 : decode cX7_plan 187 = .ok (.iinc 7 1, 3) := by decide +kernel
theorem dX7_plan_190 : decode cX7_plan 190 = .ok (.goto (-18), 3) := by decide +kernel
theorem dX7_plan_193 : decode cX7_plan 193 = .ok (.aload_n 0, 1) := by decide +kernel
theorem dX7_plan_194 : decode cX7_plan 194 = .ok (.iconst (-1), 1) := by decide +kernel
theorem dX7_plan_195 : decode cX7_plan 195 = .ok (.putfield 256, 3) := by decide +kernel
theorem dX7_plan_198 : decode cX7_plan 198 = .ok (.iconst 0, 1) := by decide +kernel
theorem dX7_plan_199 : decode cX7_plan 199 = .ok (.istore 7, 2) := by decide +kernel
theorem dX7_plan_201 : decode cX7_plan 201 = .ok (.iload 7, 2) := by decide +kernel
theorem dX7_plan_203 : decode cX7_plan 203 = .ok (.iload 6, 2) := by decide +kernel
theorem dX7_plan_205 : decode cX7_plan 205 = .ok (.if_icmp .ge 16, 3) := by decide +kernel
theorem dX7_plan_208 : decode cX7_plan 208 = .ok (.aload_n 0, 1) := by decide +kernel
theorem dX7_plan_209 : decode cX7_plan 209 = .ok (.iload 7, 2) := by decide +kernel
theorem dX7_plan_211 : decode cX7_plan 211 = .ok (.iload_n 2, 1) := by decide +kernel
theorem dX7_plan_212 : decode cX7_plan 212 = .ok (.invokevirtual 269, 3) := by decide +kernel
theorem dX7_plan_215 : decode cX7_plan 215 = .ok (.iinc 7 1, 3) := by decide +kernel
theorem dX7_plan_218 : decode cX7_plan 218 = .ok (.goto (-17), 3) := by decide +kernel
theorem dX7_plan_221 : decode cX7_plan 221 = .ok (.iload 6, 2) := by decide +kernel
theorem dX7_plan_223 : decode cX7_plan 223 = .ok (.istore 7, 2) := by decide +kernel
theorem dX7_plan_225 : decode cX7_plan 225 = .ok (.iconst 0, 1) := by decide +kernel
theorem dX7_plan_226 : decode cX7_plan 226 = .ok (.istore 8, 2) := by decide +kernel
theorem dX7_plan_228 : decode cX7_plan 228 = .ok (.iload 8, 2) := by decide +kernel
theorem dX7_plan_230 : decode cX7_plan 230 = .ok (.iload_n 3, 1) := by decide +kernel
theorem dX7_plan_231 : decode cX7_plan 231 = .ok (.if_icmp .gt 15, 3) := by decide +kernel
theorem dX7_plan_234 : decode cX7_plan 234 = .ok (.iload 7, 2) := by decide +kernel
theorem dX7_plan_236 : decode cX7_plan 236 = .ok (.iload_n 2, 1) := by decide +kernel
theorem dX7_plan_237 : decode cX7_plan 237 = .ok (.idiv, 1) := by decide +kernel
theorem dX7_plan_238 : decode cX7_plan 238 = .ok (.istore 7, 2) := by decide +kernel
theorem dX7_plan_240 : decode cX7_plan 240 = .ok (.iinc 8 1, 3) := by decide +kernel
theorem dX7_plan_243 : decode cX7_plan 243 = .ok (.goto (-15), 3) := by decide +kernel
theorem dX7_plan_246 : decode cX7_plan 246 = .ok (.iload_n 3, 1) := by decide +kernel
theorem dX7_plan_247 : decode cX7_plan 247 = .ok (.iconst (-1), 1) := by decide +kernel
theorem dX7_plan_248 : decode cX7_plan 248 = .ok (.if_icmp .ne 10, 3) := by decide +kernel
theorem dX7_plan_251 : decode cX7_plan 251 = .ok (.aload_n 0, 1) := by decide +kernel
theorem dX7_plan_252 : decode cX7_plan 252 = .ok (.getfield 259, 3) := by decide +kernel
theorem dX7_plan_255 : decode cX7_plan 255 = .ok (.goto 25, 3) := by decide +kernel
theorem dX7_plan_258 : decode cX7_plan 258 = .ok (.iload_n 3, 1) := by decide +kernel
theorem dX7_plan_259 : decode cX7_plan 259 = .ok (.bipush (-2), 2) := by decide +kernel
theorem dX7_plan_261 : decode cX7_plan 261 = .ok (.if_icmp .ne 10, 3) := by decide +kernel
theorem dX7_plan_264 : decode cX7_plan 264 = .ok (.aload_n 0, 1) := by decide +kernel
theorem dX7_plan_265 : decode cX7_plan 265 = .ok (.getfield 262, 3) := by decide +kernel
theorem dX7_plan_268 : decode cX7_plan 268 = .ok (.goto 12, 3) := by decide +kernel
theorem dX7_plan_271 : decode cX7_plan 271 = .ok (.aload_n 0, 1) := by decide +kernel
theorem dX7_plan_272 : decode cX7_plan 272 = .ok (.getfield 256, 3) := by decide +kernel
theorem dX7_plan_275 : decode cX7_plan 275 = .ok (.iload 7, 2) := by decide +kernel
theorem dX7_plan_277 : decode cX7_plan 277 = .ok (.idiv, 1) := by decide +kernel
theorem dX7_plan_278 : decode cX7_plan 278 = .ok (.iload_n 2, 1) := by decide +kernel
theorem dX7_plan_279 : decode cX7_plan 279 = .ok (.irem, 1) := by decide +kernel
theorem dX7_plan_280 : decode cX7_plan 280 = .ok (.ireturn, 1) := by decide +kernel
theorem dX7_tailor_0 : decode cX7_tailor 0 = .ok (.iload_n 1, 1) := by decide +kernel
theorem dX7_tailor_1 : decode cX7_tailor 1 = .ok (.i2l, 1) := by decide +kernel
theorem dX7_tailor_2 : decode cX7_tailor 2 = .ok (.lconst 0, 1) := by decide +kernel
theorem dX7_tailor_3 : decode cX7_tailor 3 = .ok (.ldc2_w 223, 3) := by decide +kernel
theorem dX7_tailor_6 : decode cX7_tailor 6 = .ok (.invokestatic 53, 3) := by decide +kernel
theorem dX7_tailor_9 : decode cX7_tailor 9 = .ok (.ifCond .ne 9, 3) := by decide +kernel
theorem dX7_tailor_12 : decode cX7_tailor 12 = .ok (.aload_n 0, 1) := by decide +kernel
theorem dX7_tailor_13 : decode cX7_tailor 13 = .ok (.iconst 1, 1) := by decide +kernel
theorem dX7_tailor_14 : decode cX7_tailor 14 = .ok (.invokevirtual 130, 3) := by decide +kernel
theorem dX7_tailor_17 : decode cX7_tailor 17 = .ok (.ireturn, 1) := by decide +kernel
theorem dX7_tailor_18 : decode cX7_tailor 18 = .ok (.aload_n 0, 1) := by decide +kernel
theorem dX7_tailor_19 : decode cX7_tailor 19 = .ok (.iload_n 1, 1) := by decide +kernel
theorem dX7_tailor_20 : decode cX7_tailor 20 = .ok (.invokevirtual 246, 3) := by decide +kernel
theorem dX7_tailor_23 : decode cX7_tailor 23 = .ok (.iconst 0, 1) := by decide +kernel
theorem dX7_tailor_24 : decode cX7_tailor 24 = .ok (.istore_n 2, 1) := by decide +kernel
theorem dX7_tailor_25 : decode cX7_tailor 25 = .ok (.iconst 0, 1) := by decide +kernel
theorem dX7_tailor_26 : decode cX7_tailor 26 = .ok (.istore_n 3, 1) := by decide +kernel
theorem dX7_tailor_27 : decode cX7_tailor 27 = .ok (.iload_n 3, 1) := by decide +kernel
theorem dX7_tailor_28 : decode cX7_tailor 28 = .ok (.aload_n 0, 1) := by decide +kernel
theorem dX7_tailor_29 : decode cX7_tailor 29 = .ok (.getfield 7, 3) := by decide +kernel
theorem dX7_tailor_32 : decode cX7_tailor 32 = .ok (.iconst 0, 1) := by decide +kernel
theorem dX7_tailor_33 : decode cX7_tailor 33 = .ok (.iaload, 1) := by decide +kernel
theorem dX7_tailor_34 : decode cX7_tailor 34 = .ok (.if_icmp .ge 77, 3) := by decide +kernel
theorem dX7_tailor_37 : decode cX7_tailor 37 = .ok (.iconst 0, 1) := by decide +kernel
theorem dX7_tailor_38 : decode cX7_tailor 38 = .ok (.istore 4, 2) := by decide +kernel
theorem dX7_tailor_40 : decode cX7_tailor 40 = .ok (.aload_n 0, 1) := by decide +kernel
theorem dX7_tailor_41 : decode cX7_tailor 41 = .ok (.iload_n 3, 1) := by decide +kernel
theorem dX7_tailor_42 : decode cX7_tailor 42 = .ok (.invokevirtual 153, 3) := by decide +kernel
theorem dX7_tailor_45 : decode cX7_tailor 45 = .ok (.ifCond .ne 38, 3) := by decide +kernel
theorem dX7_tailor_48 : decode cX7_tailor 48 = .ok (.iload 4, 2) := by decide +kernel
theorem dX7_tailor_50 : decode cX7_tailor 50 = .ok (.aload_n 0, 1) := by decide +kernel
theorem dX7_tailor_51 : decode cX7_tailor 51 = .ok (.iload_n 3, 1) := by decide +kernel
theorem dX7_tailor_52 : decode cX7_tailor 52 = .ok (.iconst 4, 1) := by decide +kernel
theorem dX7_tailor_53 : decode cX7_tailor 53 = .ok (.invokevirtual 150, 3) := by decide +kernel
theorem dX7_tailor_56 : decode cX7_tailor 56 = .ok (.if_icmp .gt 27, 3) := by decide +kernel
theorem dX7_tailor_59 : decode cX7_tailor 59 = .ok (.aload_n 0, 1) := by decide +kernel
theorem dX7_tailor_60 : decode cX7_tailor 60 = .ok (.iload_n 3, 1) := by decide +kernel
theorem dX7_tailor_61 : decode cX7_tailor 61 = .ok (.aload_n 0, 1) := by decide +kernel
theorem dX7_tailor_62 : decode cX7_tailor 62 = .ok (.iload_n 3, 1) := by decide +kernel
theorem dX7_tailor_63 : decode cX7_tailor 63 = .ok (.iconst 4, 1) := by decide +kernel
theorem dX7_tailor_64 : decode cX7_tailor 64 = .ok (.invokevirtual 150, 3) := by decide +kernel
theorem dX7_tailor_67 : decode cX7_tailor 67 = .ok (.iload 4, 2) := by decide +kernel
theorem dX7_tailor_69 : decode cX7_tailor 69 = .ok (.isub, 1) := by decide +kernel
theorem dX7_tailor_70 : decode cX7_tailor 70 = .ok (.iload_n 1, 1) := by decide +kernel
theorem dX7_tailor_71 : decode cX7_tailor 71 = .ok (.invokevirtual 249, 3) := by decide +kernel
theorem dX7_tailor_74 : decode cX7_tailor 74 = .ok (.ifCond .ne 9, 3) := by decide +kernel
theorem dX7_tailor_77 : decode cX7_tailor 77 = .ok (.iinc 4 1, 3) := by decide +kernel
theorem dX7_tailor_80 : decode cX7_tailor 80 = .ok (.goto (-40), 3) := by decide +kernel
theorem dX7_tailor_83 : decode cX7_tailor 83 = .ok (.iload 4, 2) := by decide +kernel
theorem dX7_tailor_85 : decode cX7_tailor 85 = .ok (.aload_n 0, 1) := by decide +kernel
theorem dX7_tailor_86 : decode cX7_tailor 86 = .ok (.iload_n 3, 1) := by decide +kernel
theorem dX7_tailor_87 : decode cX7_tailor 87 = .ok (.iconst 4, 1) := by decide +kernel
theorem dX7_tailor_88 : decode cX7_tailor 88 = .ok (.invokevirtual 150, 3) := by decide +kernel
theorem dX7_tailor_91 : decode cX7_tailor 91 = .ok (.if_icmp .le 9, 3) := by decide +kernel
theorem dX7_tailor_94 : decode cX7_tailor 94 = .ok (.aload_n 0, 1) := by decide +kernel
theorem dX7_tailor_95 : decode cX7_tailor 95 = .ok (.iconst 2, 1) := by decide +kernel
theorem dX7_tailor_96 : decode cX7_tailor 96 = .ok (.invokevirtual 130, 3) := by decide +kernel
theorem dX7_tailor_99 : decode cX7_tailor 99 = .ok (.ireturn, 1) := by decide +kernel
theorem dX7_tailor_100 : decode cX7_tailor 100 = .ok (.iload_n 2, 1) := by decide +kernel
theorem dX7_tailor_101 : decode cX7_tailor 101 = .ok (.iload 4, 2) := by decide +kernel
theorem dX7_tailor_103 : decode cX7_tailor 103 = .ok (.iadd, 1) := by decide +kernel
theorem dX7_tailor_104 : decode cX7_tailor 104 = .ok (.istore_n 2, 1) := by decide +kernel
theorem dX7_tailor_105 : decode cX7_tailor 105 = .ok (.iinc 3 1, 3) := by decide +kernel
theorem dX7_tailor_108 : decode cX7_tailor 108 = .ok (.goto (-81), 3) := by decide +kernel
theorem dX7_tailor_111 : decode cX7_tailor 111 = .ok (.iload_n 2, 1) := by decide +kernel
theorem dX7_tailor_112 : decode cX7_tailor 112 = .ok (.ireturn, 1) := by decide +kernel
theorem dX7_voted_0 : decode cX7_voted 0 = .ok (.iload_n 1, 1) := by decide +kernel
theorem dX7_voted_1 : decode cX7_voted 1 = .ok (.invokestatic 273, 3) := by decide +kernel
theorem dX7_voted_4 : decode cX7_voted 4 = .ok (.ifCond .eq 13, 3) := by decide +kernel
theorem dX7_voted_7 : decode cX7_voted 7 = .ok (.iload_n 2, 1) := by decide +kernel
theorem dX7_voted_8 : decode cX7_voted 8 = .ok (.i2l, 1) := by decide +kernel
theorem dX7_voted_9 : decode cX7_voted 9 = .ok (.lconst 0, 1) := by decide +kernel
theorem dX7_voted_10 : decode cX7_voted 10 = .ok (.lconst 1, 1) := by decide +kernel
theorem dX7_voted_11 : decode cX7_voted 11 = .ok (.invokestatic 53, 3) := by decide +kernel
theorem dX7_voted_14 : decode cX7_voted 14 = .ok (.ifCond .ne 9, 3) := by decide +kernel
theorem dX7_voted_17 : decode cX7_voted 17 = .ok (.aload_n 0, 1) := by decide +kernel
theorem dX7_voted_18 : decode cX7_voted 18 = .ok (.iconst 1, 1) := by decide +kernel
theorem dX7_voted_19 : decode cX7_voted 19 = .ok (.invokevirtual 130, 3) := by decide +kernel
theorem dX7_voted_22 : decode cX7_voted 22 = .ok (.ireturn, 1) := by decide +kernel
theorem dX7_voted_23 : decode cX7_voted 23 = .ok (.aload_n 0, 1) := by decide +kernel
theorem dX7_voted_24 : decode cX7_voted 24 = .ok (.getfield 40, 3) := by decide +kernel
theorem dX7_voted_27 : decode cX7_voted 27 = .ok (.iload_n 1, 1) := by decide +kernel
theorem dX7_voted_28 : decode cX7_voted 28 = .ok (.iaload, 1) := by decide +kernel
theorem dX7_voted_29 : decode cX7_voted 29 = .ok (.ifCond .eq 13, 3) := by decide +kernel
theorem dX7_voted_32 : decode cX7_voted 32 = .ok (.aload_n 0, 1) := by decide +kernel
theorem dX7_voted_33 : decode cX7_voted 33 = .ok (.getfield 43, 3) := by decide +kernel
theorem dX7_voted_36 : decode cX7_voted 36 = .ok (.iload_n 1, 1) := by decide +kernel
theorem dX7_voted_37 : decode cX7_voted 37 = .ok (.iaload, 1) := by decide +kernel
theorem dX7_voted_38 : decode cX7_voted 38 = .ok (.iconst 2, 1) := by decide +kernel
theorem dX7_voted_39 : decode cX7_voted 39 = .ok (.if_icmp .eq 9, 3) := by decide +kernel
theorem dX7_voted_42 : decode cX7_voted 42 = .ok (.aload_n 0, 1) := by decide +kernel
theorem dX7_voted_43 : decode cX7_voted 43 = .ok (.iconst 2, 1) := by decide +kernel
theorem dX7_voted_44 : decode cX7_voted 44 = .ok (.invokevirtual 130, 3) := by decide +kernel
theorem dX7_voted_47 : decode cX7_voted 47 = .ok (.ireturn, 1) := by decide +kernel
theorem dX7_voted_48 : decode cX7_voted 48 = .ok (.iconst 0, 1) := by decide +kernel
theorem dX7_voted_49 : decode cX7_voted 49 = .ok (.istore_n 3, 1) := by decide +kernel
theorem dX7_voted_50 : decode cX7_voted 50 = .ok (.iconst (-1), 1) := by decide +kernel
theorem dX7_voted_51 : decode cX7_voted 51 = .ok (.istore 4, 2) := by decide +kernel
theorem dX7_voted_53 : decode cX7_voted 53 = .ok (.iconst 0, 1) := by decide +kernel
theorem dX7_voted_54 : decode cX7_voted 54 = .ok (.istore 5, 2) := by decide +kernel
theorem dX7_voted_56 : decode cX7_voted 56 = .ok (.iload 5, 2) := by decide +kernel
theorem dX7_voted_58 : decode cX7_voted 58 = .ok (.iconst 1, 1) := by decide +kernel
theorem dX7_voted_59 : decode cX7_voted 59 = .ok (.aload_n 0, 1) := by decide +kernel
theorem dX7_voted_60 : decode cX7_voted 60 = .ok (.getfield 7, 3) := by decide +kernel
theorem dX7_voted_63 : decode cX7_voted 63 = .ok (.iconst 0, 1) := by decide +kernel
theorem dX7_voted_64 : decode cX7_voted 64 = .ok (.iaload, 1) := by decide +kernel
theorem dX7_voted_65 : decode cX7_voted 65 = .ok (.ishl, 1) := by decide +kernel
theorem dX7_voted_66 : decode cX7_voted 66 = .ok (.if_icmp .ge 139, 3) := by decide +kernel
theorem dX7_voted_69 : decode cX7_voted 69 = .ok (.iconst 0, 1) := by decide +kernel
theorem dX7_voted_70 : decode cX7_voted 70 = .ok (.istore 6, 2) := by decide +kernel
theorem dX7_voted_72 : decode cX7_voted 72 = .ok (.iconst 0, 1) := by decide +kernel
theorem dX7_voted_73 : decode cX7_voted 73 = .ok (.istore 7, 2) := by decide +kernel
theorem dX7_voted_75 : decode cX7_voted 75 = .ok (.iconst 0, 1) := by decide +kernel
theorem dX7_voted_76 : decode cX7_voted 76 = .ok (.istore 8, 2) := by decide +kernel
theorem dX7_voted_78 : decode cX7_voted 78 = .ok (.iload 8, 2) := by decide +kernel
theorem dX7_voted_80 : decode cX7_voted 80 = .ok (.aload_n 0, 1) := by decide +kernel
theorem dX7_voted_81 : decode cX7_voted 81 = .ok (.getfield 7, 3) := by decide +kernel
theorem dX7_voted_84 : decode cX7_voted 84 = .ok (.iconst 0, 1) := by decide +kernel
theorem dX7_voted_85 : decode cX7_voted 85 = .ok (.iaload, 1) := by decide +kernel
theorem dX7_voted_86 : decode cX7_voted 86 = .ok (.if_icmp .ge 44, 3) := by decide +kernel
theorem dX7_voted_89 : decode cX7_voted 89 = .ok (.iload 5, 2) := by decide +kernel
theorem dX7_voted_91 : decode cX7_voted 91 = .ok (.iload 8, 2) := by decide +kernel
theorem dX7_voted_93 : decode cX7_voted 93 = .ok (.ishr, 1) := by decide +kernel
theorem dX7_voted_94 : decode cX7_voted 94 = .ok (.iconst 1, 1) := by decide +kernel
theorem dX7_voted_95 : decode cX7_voted 95 = .ok (.iand, 1) := by decide +kernel
theorem dX7_voted_96 : decode cX7_voted 96 = .ok (.iconst 1, 1) := by decide +kernel
theorem dX7_voted_97 : decode cX7_voted 97 = .ok (.if_icmp .ne 27, 3) := by decide +kernel
theorem dX7_voted_100 : decode cX7_voted 100 = .ok (.aload_n 0, 1) := by decide +kernel
theorem dX7_voted_101 : decode cX7_voted 101 = .ok (.iload 8, 2) := by decide +kernel
theorem dX7_voted_103 : decode cX7_voted 103 = .ok (.invokevirtual 169, 3) := by decide +kernel
theorem dX7_voted_106 : decode cX7_voted 106 = .ok (.iload 6, 2) := by decide +kernel
theorem dX7_voted_108 : decode cX7_voted 108 = .ok (.aload_n 0, 1) := by decide +kernel
theorem dX7_voted_109 : decode cX7_voted 109 = .ok (.getfield 156, 3) := by decide +kernel
theorem dX7_voted_112 : decode cX7_voted 112 = .ok (.iadd, 1) := by decide +kernel
theorem dX7_voted_113 : decode cX7_voted 113 = .ok (.istore 6, 2) := by decide +kernel
theorem dX7_voted_115 : decode cX7_voted 115 = .ok (.iload 7, 2) := by decide +kernel
theorem dX7_voted_117 : decode cX7_voted 117 = .ok (.aload_n 0, 1) := by decide +kernel
theorem dX7_voted_118 : decode cX7_voted 118 = .ok (.getfield 159, 3) := by decide +kernel
theorem dX7_voted_121 : decode cX7_voted 121 = .ok (.iadd, 1) := by decide +kernel
theorem dX7_voted_122 : decode cX7_voted 122 = .ok (.istore 7, 2) := by decide +kernel
theorem dX7_voted_124 : decode cX7_voted 124 = .ok (.iinc 8 1, 3) := by decide +kernel
theorem dX7_voted_127 : decode cX7_voted 127 = .ok (.goto (-49), 3) := by decide +kernel
theorem dX7_voted_130 : decode cX7_voted 130 = .ok (.iload 6, 2) := by decide +kernel
theorem dX7_voted_132 : decode cX7_voted 132 = .ok (.aload_n 0, 1) := by decide +kernel
theorem dX7_voted_133 : decode cX7_voted 133 = .ok (.getfield 46, 3) := by decide +kernel
theorem dX7_voted_136 : decode cX7_voted 136 = .ok (.bipush 40, 2) := by decide +kernel
theorem dX7_voted_138 : decode cX7_voted 138 = .ok (.iload_n 1, 1) := by decide +kernel
theorem dX7_voted_139 : decode cX7_voted 139 = .ok (.imul, 1) := by decide +kernel
theorem dX7_voted_140 : decode cX7_voted 140 = .ok (.iaload, 1) := by decide +kernel
theorem dX7_voted_141 : decode cX7_voted 141 = .ok (.if_icmp .ne 23, 3) := by decide +kernel
theorem dX7_voted_144 : decode cX7_voted 144 = .ok (.iload 7, 2) := by decide +kernel
theorem dX7_voted_146 : decode cX7_voted 146 = .ok (.aload_n 0, 1) := by decide +kernel
theorem dX7_voted_147 : decode cX7_voted 147 = .ok (.getfield 46, 3) := by decide +kernel
theorem dX7_voted_150 : decode cX7_voted 150 = .ok (.bipush 40, 2) := by decide +kernel
theorem dX7_voted_152 : decode cX7_voted 152 = .ok (.iload_n 1, 1) := by decide +kernel
theorem dX7_voted_153 : decode cX7_voted 153 = .ok (.imul, 1) := by decide +kernel
theorem dX7_voted_154 : decode cX7_voted 154 = .ok (.iconst 1, 1) := by decide +kernel
theorem dX7_voted_155 : decode cX7_voted 155 = .ok (.iadd, 1) := by decide +kernel
theorem dX7_voted_156 : decode cX7_voted 156 = .ok (.iaload, 1) := by decide +kernel
theorem dX7_voted_157 : decode cX7_voted 157 = .ok (.if_icmp .ne 7, 3) := by decide +kernel
theorem dX7_voted_160 : decode cX7_voted 160 = .ok (.iconst 1, 1) := by decide +kernel
theorem dX7_voted_161 : decode cX7_voted 161 = .ok (.goto 4, 3) := by decide +kernel
theorem dX7_voted_164 : decode cX7_voted 164 = .ok (.iconst 0, 1) := by decide +kernel
theorem dX7_voted_165 : decode cX7_voted 165 = .ok (.istore 8, 2) := by decide +kernel
theorem dX7_voted_167 : decode cX7_voted 167 = .ok (.iload_n 3, 1) := by decide +kernel
theorem dX7_voted_168 : decode cX7_voted 168 = .ok (.iload 8, 2) := by decide +kernel
theorem dX7_voted_170 : decode cX7_voted 170 = .ok (.ifCond .eq 7, 3) := by decide +kernel
theorem dX7_voted_173 : decode cX7_voted 173 = .ok (.iconst 1, 1) := by decide +kernel
theorem dX7_voted_174 : decode cX7_voted 174 = .ok (.goto 4, 3) := by decide +kernel
theorem dX7_voted_177 : decode cX7_voted 177 = .ok (.iconst 0, 1) := by decide +kernel
theorem dX7_voted_178 : decode cX7_voted 178 = .ok (.iadd, 1) := by decide +kernel
theorem dX7_voted_179 : decode cX7_voted 179 = .ok (.istore_n 3, 1) := by decide +kernel
theorem dX7_voted_180 : decode cX7_voted 180 = .ok (.iload 8, 2) := by decide +kernel
theorem dX7_voted_182 : decode cX7_voted 182 = .ok (.ifCond .eq 13, 3) := by decide +kernel
theorem dX7_voted_185 : decode cX7_voted 185 = .ok (.iload 4, 2) := by decide +kernel
theorem dX7_voted_187 : decode cX7_voted 187 = .ok (.ifCond .ge 8, 3) := by decide +kernel
theorem dX7_voted_190 : decode cX7_voted 190 = .ok (.iload 5, 2) := by decide +kernel
theorem dX7_voted_192 : decode cX7_voted 192 = .ok (.goto 5, 3) := by decide +kernel
theorem dX7_voted_195 : decode cX7_voted 195 = .ok (.iload 4, 2) := by decide +kernel
theorem dX7_voted_197 : decode cX7_voted 197 = .ok (.istore 4, 2) := by decide +kernel
theorem dX7_voted_199 : decode cX7_voted 199 = .ok (.iinc 5 1, 3) := by decide +kernel
theorem dX7_voted_202 : decode cX7_voted 202 = .ok (.goto (-146), 3) := by decide +kernel
theorem dX7_voted_205 : decode cX7_voted 205 = .ok (.iload_n 2, 1) := by decide +kernel
theorem dX7_voted_206 : decode cX7_voted 206 = .ok (.ifCond .ne 7, 3) := by decide +kernel
theorem dX7_voted_209 : decode cX7_voted 209 = .ok (.iload_n 3, 1) := by decide +kernel
theorem dX7_voted_210 : decode cX7_voted 210 = .ok (.goto 18, 3) := by decide +kernel
theorem dX7_voted_213 : decode cX7_voted 213 = .ok (.iload 4, 2) := by decide +kernel
theorem dX7_voted_215 : decode cX7_voted 215 = .ok (.ifCond .ge 11, 3) := by decide +kernel
theorem dX7_voted_218 : decode cX7_voted 218 = .ok (.aload_n 0, 1) := by decide +kernel
theorem dX7_voted_219 : decode cX7_voted 219 = .ok (.iconst 2, 1) := by decide +kernel
theorem dX7_voted_220 : decode cX7_voted 220 = .ok (.invokevirtual 130, 3) := by decide +kernel
theorem dX7_voted_223 : decode cX7_voted 223 = .ok (.goto 5, 3) := by decide +kernel
theorem dX7_voted_226 : decode cX7_voted 226 = .ok (.iload 4, 2) := by decide +kernel
theorem dX7_voted_228 : decode cX7_voted 228 = .ok (.ireturn, 1) := by decide +kernel
theorem dX7_harder_0 : decode cX7_harder 0 = .ok (.iload_n 1, 1) := by decide +kernel
theorem dX7_harder_1 : decode cX7_harder 1 = .ok (.i2l, 1) := by decide +kernel
theorem dX7_harder_2 : decode cX7_harder 2 = .ok (.lconst 0, 1) := by decide +kernel
theorem dX7_harder_3 : decode cX7_harder 3 = .ok (.ldc2_w 223, 3) := by decide +kernel
theorem dX7_harder_6 : decode cX7_harder 6 = .ok (.invokestatic 53, 3) := by decide +kernel
theorem dX7_harder_9 : decode cX7_harder 9 = .ok (.ifCond .ne 9, 3) := by decide +kernel
theorem dX7_harder_12 : decode cX7_harder 12 = .ok (.aload_n 0, 1) := by decide +kernel
theorem dX7_harder_13 : decode cX7_harder 13 = .ok (.iconst 1, 1) := by decide +kernel
theorem dX7_harder_14 : decode cX7_harder 14 = .ok (.invokevirtual 130, 3) := by decide +kernel
theorem dX7_harder_17 : decode cX7_harder 17 = .ok (.ireturn, 1) := by decide +kernel
theorem dX7_harder_18 : decode cX7_harder 18 = .ok (.aload_n 0, 1) := by decide +kernel
theorem dX7_harder_19 : decode cX7_harder 19 = .ok (.invokevirtual 240, 3) := by decide +kernel
theorem dX7_harder_22 : decode cX7_harder 22 = .ok (.istore_n 2, 1) := by decide +kernel
theorem dX7_harder_23 : decode cX7_harder 23 = .ok (.iconst 0, 1) := by decide +kernel
theorem dX7_harder_24 : decode cX7_harder 24 = .ok (.istore_n 3, 1) := by decide +kernel
theorem dX7_harder_25 : decode cX7_harder 25 = .ok (.iload_n 3, 1) := by decide +kernel
theorem dX7_harder_26 : decode cX7_harder 26 = .ok (.bipush 9, 2) := by decide +kernel
theorem dX7_harder_28 : decode cX7_harder 28 = .ok (.if_icmp .gt 43, 3) := by decide +kernel
theorem dX7_harder_31 : decode cX7_harder 31 = .ok (.aload_n 0, 1) := by decide +kernel
theorem dX7_harder_32 : decode cX7_harder 32 = .ok (.invokevirtual 237, 3) := by decide +kernel
theorem dX7_harder_35 : decode cX7_harder 35 = .ok (.aload_n 0, 1) := by decide +kernel
theorem dX7_harder_36 : decode cX7_harder 36 = .ok (.getfield 7, 3) := by decide +kernel
theorem dX7_harder_39 : decode cX7_harder 39 = .ok (.iconst 5, 1) := by decide +kernel
theorem dX7_harder_40 : decode cX7_harder 40 = .ok (.iload_n 3, 1) := by decide +kernel
theorem dX7_harder_41 : decode cX7_harder 41 = .ok (.iastore, 1) := by decide +kernel
theorem dX7_harder_42 : decode cX7_harder 42 = .ok (.aload_n 0, 1) := by decide +kernel
theorem dX7_harder_43 : decode cX7_harder 43 = .ok (.iload_n 1, 1) := by decide +kernel
theorem dX7_harder_44 : decode cX7_harder 44 = .ok (.invokevirtual 225, 3) := by decide +kernel
theorem dX7_harder_47 : decode cX7_harder 47 = .ok (.aload_n 0, 1) := by decide +kernel
theorem dX7_harder_48 : decode cX7_harder 48 = .ok (.invokevirtual 240, 3) := by decide +kernel
theorem dX7_harder_51 : decode cX7_harder 51 = .ok (.istore 4, 2) := by decide +kernel
theorem dX7_harder_53 : decode cX7_harder 53 = .ok (.aload_n 0, 1) := by decide +kernel
theorem dX7_harder_54 : decode cX7_harder 54 = .ok (.invokevirtual 243, 3) := by decide +kernel
theorem dX7_harder_57 : decode cX7_harder 57 = .ok (.iload 4, 2) := by decide +kernel
theorem dX7_harder_59 : decode cX7_harder 59 = .ok (.iload_n 2, 1) := by decide +kernel
theorem dX7_harder_60 : decode cX7_harder 60 = .ok (.if_icmp .eq 5, 3) := by decide +kernel
theorem dX7_harder_63 : decode cX7_harder 63 = .ok (.iload_n 3, 1) := by decide +kernel
theorem dX7_harder_64 : decode cX7_harder 64 = .ok (.ireturn, 1) := by decide +kernel
theorem dX7_harder_65 : decode cX7_harder 65 = .ok (.iinc 3 1, 3) := by decide +kernel
theorem dX7_harder_68 : decode cX7_harder 68 = .ok (.goto (-43), 3) := by decide +kernel
theorem dX7_harder_71 : decode cX7_harder 71 = .ok (.aload_n 0, 1) := by decide +kernel
theorem dX7_harder_72 : decode cX7_harder 72 = .ok (.iconst 2, 1) := by decide +kernel
theorem dX7_harder_73 : decode cX7_harder 73 = .ok (.invokevirtual 130, 3) := by decide +kernel
theorem dX7_harder_76 : decode cX7_harder 76 = .ok (.ireturn, 1) := by decide +kernel
theorem dX7_seed_0 : decode cX7_seed 0 = .ok (.aload_n 0, 1) := by decide +kernel
theorem dX7_seed_1 : decode cX7_seed 1 = .ok (.getfield 7, 3) := by decide +kernel
theorem dX7_seed_4 : decode cX7_seed 4 = .ok (.bipush 7, 2) := by decide +kernel
theorem dX7_seed_6 : decode cX7_seed 6 = .ok (.iaload, 1) := by decide +kernel
theorem dX7_seed_7 : decode cX7_seed 7 = .ok (.istore_n 2, 1) := by decide +kernel
theorem dX7_seed_8 : decode cX7_seed 8 = .ok (.aload_n 0, 1) := by decide +kernel
theorem dX7_seed_9 : decode cX7_seed 9 = .ok (.getfield 7, 3) := by decide +kernel
theorem dX7_seed_12 : decode cX7_seed 12 = .ok (.bipush 7, 2) := by decide +kernel
theorem dX7_seed_14 : decode cX7_seed 14 = .ok (.iload_n 1, 1) := by decide +kernel
theorem dX7_seed_15 : decode cX7_seed 15 = .ok (.iastore, 1) := by decide +kernel
theorem dX7_seed_16 : decode cX7_seed 16 = .ok (.iload_n 2, 1) := by decide +kernel
theorem dX7_seed_17 : decode cX7_seed 17 = .ok (.ireturn, 1) := by decide +kernel
theorem dX7_ran_0 : decode cX7_ran 0 = .ok (.aload_n 0, 1) := by decide +kernel
theorem dX7_ran_1 : decode cX7_ran 1 = .ok (.getfield 276, 3) := by decide +kernel
theorem dX7_ran_4 : decode cX7_ran 4 = .ok (.bipush 40, 2) := by decide +kernel
theorem dX7_ran_6 : decode cX7_ran 6 = .ok (.if_icmp .ge 23, 3) := by decide +kernel
theorem dX7_ran_9 : decode cX7_ran 9 = .ok (.aload_n 0, 1) := by decide +kernel
theorem dX7_ran_10 : decode cX7_ran 10 = .ok (.getfield 37, 3) := by decide +kernel
theorem dX7_ran_13 : decode cX7_ran 13 = .ok (.aload_n 0, 1) := by decide +kernel
theorem dX7_ran_14 : decode cX7_ran 14 = .ok (.getfield 276, 3) := by decide +kernel
theorem dX7_ran_17 : decode cX7_ran 17 = .ok (.iload_n 1, 1) := by decide +kernel
theorem dX7_ran_18 : decode cX7_ran 18 = .ok (.iastore, 1) := by decide +kernel
theorem dX7_ran_19 : decode cX7_ran 19 = .ok (.aload_n 0, 1) := by decide +kernel
theorem dX7_ran_20 : decode cX7_ran 20 = .ok (.dup, 1) := by decide +kernel
theorem dX7_ran_21 : decode cX7_ran 21 = .ok (.getfield 276, 3) := by decide +kernel
theorem dX7_ran_24 : decode cX7_ran 24 = .ok (.iconst 1, 1) := by decide +kernel
theorem dX7_ran_25 : decode cX7_ran 25 = .ok (.iadd, 1) := by decide +kernel
theorem dX7_ran_26 : decode cX7_ran 26 = .ok (.putfield 276, 3) := by decide +kernel
theorem dX7_ran_29 : decode cX7_ran 29 = .ok (.return_, 1) := by decide +kernel
theorem dX7_cutsBy_0 : decode cX7_cutsBy 0 = .ok (.iload_n 1, 1) := by decide +kernel
theorem dX7_cutsBy_1 : decode cX7_cutsBy 1 = .ok (.lookupswitch 58 #[(0, 27), (2, 40)], 27) := by decide +kernel
theorem dX7_cutsBy_28 : decode cX7_cutsBy 28 = .ok (.aload_n 0, 1) := by decide +kernel
theorem dX7_cutsBy_29 : decode cX7_cutsBy 29 = .ok (.bipush 10, 2) := by decide +kernel
theorem dX7_cutsBy_31 : decode cX7_cutsBy 31 = .ok (.invokevirtual 279, 3) := by decide +kernel
theorem dX7_cutsBy_34 : decode cX7_cutsBy 34 = .ok (.iload_n 2, 1) := by decide +kernel
theorem dX7_cutsBy_35 : decode cX7_cutsBy 35 = .ok (.aload_n 0, 1) := by decide +kernel
theorem dX7_cutsBy_36 : decode cX7_cutsBy 36 = .ok (.getfield 282, 3) := by decide +kernel
theorem dX7_cutsBy_39 : decode cX7_cutsBy 39 = .ok (.iadd, 1) := by decide +kernel
theorem dX7_cutsBy_40 : decode cX7_cutsBy 40 = .ok (.ireturn, 1) := by decide +kernel
theorem dX7_cutsBy_41 : decode cX7_cutsBy 41 = .ok (.aload_n 0, 1) := by decide +kernel
theorem dX7_cutsBy_42 : decode cX7_cutsBy 42 = .ok (.bipush 30, 2) := by decide +kernel
theorem dX7_cutsBy_44 : decode cX7_cutsBy 44 = .ok (.invokevirtual 279, 3) := by decide +kernel
theorem dX7_cutsBy_47 : decode cX7_cutsBy 47 = .ok (.aload_n 0, 1) := by decide +kernel
theorem dX7_cutsBy_48 : decode cX7_cutsBy 48 = .ok (.iconst 2, 1) := by decide +kernel
theorem dX7_cutsBy_49 : decode cX7_cutsBy 49 = .ok (.invokestatic 206, 3) := by decide +kernel
theorem dX7_cutsBy_52 : decode cX7_cutsBy 52 = .ok (.iload_n 2, 1) := by decide +kernel
theorem dX7_cutsBy_53 : decode cX7_cutsBy 53 = .ok (.invokevirtual 285, 3) := by decide +kernel
theorem dX7_cutsBy_56 : decode cX7_cutsBy 56 = .ok (.iconst 3, 1) := by decide +kernel
theorem dX7_cutsBy_57 : decode cX7_cutsBy 57 = .ok (.imul, 1) := by decide +kernel
theorem dX7_cutsBy_58 : decode cX7_cutsBy 58 = .ok (.ireturn, 1) := by decide +kernel
theorem dX7_cutsBy_59 : decode cX7_cutsBy 59 = .ok (.aload_n 0, 1) := by decide +kernel
theorem dX7_cutsBy_60 : decode cX7_cutsBy 60 = .ok (.iload_n 1, 1) := by decide +kernel
theorem dX7_cutsBy_61 : decode cX7_cutsBy 61 = .ok (.invokestatic 206, 3) := by decide +kernel
theorem dX7_cutsBy_64 : decode cX7_cutsBy 64 = .ok (.iload_n 2, 1) := by decide +kernel
theorem dX7_cutsBy_65 : decode cX7_cutsBy 65 = .ok (.invokevirtual 285, 3) := by decide +kernel
theorem dX7_cutsBy_68 : decode cX7_cutsBy 68 = .ok (.ireturn, 1) := by decide +kernel
theorem dX7_countsBy_0 : decode cX7_countsBy 0 = .ok (.iload_n 1, 1) := by decide +kernel
theorem dX7_countsBy_1 : decode cX7_countsBy 1 = .ok (.lookupswitch 110 #[(0, 35), (3, 58), (6, 91)], 35) := by decide +kernel
theorem dX7_countsBy_36 : decode cX7_countsBy 36 = .ok (.aload_n 0, 1) := by decide +kernel
theorem dX7_countsBy_37 : decode cX7_countsBy 37 = .ok (.bipush 11, 2) := by decide +kernel
theorem dX7_countsBy_39 : decode cX7_countsBy 39 = .ok (.invokevirtual 279, 3) := by decide +kernel
theorem dX7_countsBy_42 : decode cX7_countsBy 42 = .ok (.aload_n 0, 1) := by decide +kernel
theorem dX7_countsBy_43 : decode cX7_countsBy 43 = .ok (.aload_n 0, 1) := by decide +kernel
theorem dX7_countsBy_44 : decode cX7_countsBy 44 = .ok (.aload_n 0, 1) := by decide +kernel
theorem dX7_countsBy_45 : decode cX7_countsBy 45 = .ok (.getfield 282, 3) := by decide +kernel
theorem dX7_countsBy_48 : decode cX7_countsBy 48 = .ok (.iconst 0, 1) := by decide +kernel
theorem dX7_countsBy_49 : decode cX7_countsBy 49 = .ok (.invokevirtual 150, 3) := by decide +kernel
theorem dX7_countsBy_52 : decode cX7_countsBy 52 = .ok (.iload_n 2, 1) := by decide +kernel
theorem dX7_countsBy_53 : decode cX7_countsBy 53 = .ok (.invokevirtual 285, 3) := by decide +kernel
theorem dX7_countsBy_56 : decode cX7_countsBy 56 = .ok (.iconst 2, 1) := by decide +kernel
theorem dX7_countsBy_57 : decode cX7_countsBy 57 = .ok (.imul, 1) := by decide +kernel
theorem dX7_countsBy_58 : decode cX7_countsBy 58 = .ok (.ireturn, 1) := by decide +kernel
theorem dX7_countsBy_59 : decode cX7_countsBy 59 = .ok (.aload_n 0, 1) := by decide +kernel
theorem dX7_countsBy_60 : decode cX7_countsBy 60 = .ok (.bipush 40, 2) := by decide +kernel
theorem dX7_countsBy_62 : decode cX7_countsBy 62 = .ok (.invokevirtual 279, 3) := by decide +kernel
theorem dX7_countsBy_65 : decode cX7_countsBy 65 = .ok (.aload_n 0, 1) := by decide +kernel
theorem dX7_countsBy_66 : decode cX7_countsBy 66 = .ok (.iconst 3, 1) := by decide +kernel
theorem dX7_countsBy_67 : decode cX7_countsBy 67 = .ok (.invokestatic 206, 3) := by decide +kernel
theorem dX7_countsBy_70 : decode cX7_countsBy 70 = .ok (.iload_n 2, 1) := by decide +kernel
theorem dX7_countsBy_71 : decode cX7_countsBy 71 = .ok (.invokevirtual 288, 3) := by decide +kernel
theorem dX7_countsBy_74 : decode cX7_countsBy 74 = .ok (.istore_n 3, 1) := by decide +kernel
theorem dX7_countsBy_75 : decode cX7_countsBy 75 = .ok (.iload_n 3, 1) := by decide +kernel
theorem dX7_countsBy_76 : decode cX7_countsBy 76 = .ok (.aload_n 0, 1) := by decide +kernel
theorem dX7_countsBy_77 : decode cX7_countsBy 77 = .ok (.aload_n 0, 1) := by decide +kernel
theorem dX7_countsBy_78 : decode cX7_countsBy 78 = .ok (.aload_n 0, 1) := by decide +kernel
theorem dX7_countsBy_79 : decode cX7_countsBy 79 = .ok (.getfield 282, 3) := by decide +kernel
theorem dX7_countsBy_82 : decode cX7_countsBy 82 = .ok (.iconst 0, 1) := by decide +kernel
theorem dX7_countsBy_83 : decode cX7_countsBy 83 = .ok (.invokevirtual 150, 3) := by decide +kernel
theorem dX7_countsBy_86 : decode cX7_countsBy 86 = .ok (.iconst 1, 1) := by decide +kernel
theorem dX7_countsBy_87 : decode cX7_countsBy 87 = .ok (.invokevirtual 291, 3) := by decide +kernel
theorem dX7_countsBy_90 : decode cX7_countsBy 90 = .ok (.isub, 1) := by decide +kernel
theorem dX7_countsBy_91 : decode cX7_countsBy 91 = .ok (.ireturn, 1) := by decide +kernel
theorem dX7_countsBy_92 : decode cX7_countsBy 92 = .ok (.aload_n 0, 1) := by decide +kernel
theorem dX7_countsBy_93 : decode cX7_countsBy 93 = .ok (.bipush 70, 2) := by decide +kernel
theorem dX7_countsBy_95 : decode cX7_countsBy 95 = .ok (.invokevirtual 279, 3) := by decide +kernel
theorem dX7_countsBy_98 : decode cX7_countsBy 98 = .ok (.aload_n 0, 1) := by decide +kernel
theorem dX7_countsBy_99 : decode cX7_countsBy 99 = .ok (.bipush 6, 2) := by decide +kernel
theorem dX7_countsBy_101 : decode cX7_countsBy 101 = .ok (.invokestatic 206, 3) := by decide +kernel
theorem dX7_countsBy_104 : decode cX7_countsBy 104 = .ok (.iload_n 2, 1) := by decide +kernel
theorem dX7_countsBy_105 : decode cX7_countsBy 105 = .ok (.iconst 1, 1) := by decide +kernel
theorem dX7_countsBy_106 : decode cX7_countsBy 106 = .ok (.iadd, 1) := by decide +kernel
theorem dX7_countsBy_107 : decode cX7_countsBy 107 = .ok (.invokevirtual 288, 3) := by decide +kernel
theorem dX7_countsBy_110 : decode cX7_countsBy 110 = .ok (.ireturn, 1) := by decide +kernel
theorem dX7_countsBy_111 : decode cX7_countsBy 111 = .ok (.aload_n 0, 1) := by decide +kernel
theorem dX7_countsBy_112 : decode cX7_countsBy 112 = .ok (.iload_n 1, 1) := by decide +kernel
theorem dX7_countsBy_113 : decode cX7_countsBy 113 = .ok (.invokestatic 206, 3) := by decide +kernel
theorem dX7_countsBy_116 : decode cX7_countsBy 116 = .ok (.iload_n 2, 1) := by decide +kernel
theorem dX7_countsBy_117 : decode cX7_countsBy 117 = .ok (.invokevirtual 288, 3) := by decide +kernel
theorem dX7_countsBy_120 : decode cX7_countsBy 120 = .ok (.ireturn, 1) := by decide +kernel
theorem dX7_chillsBy_0 : decode cX7_chillsBy 0 = .ok (.iload_n 1, 1) := by decide +kernel
theorem dX7_chillsBy_1 : decode cX7_chillsBy 1 = .ok (.tableswitch 91 0 4 #[35, 53, 91, 91, 70], 35) := by decide +kernel
theorem dX7_chillsBy_36 : decode cX7_chillsBy 36 = .ok (.aload_n 0, 1) := by decide +kernel
theorem dX7_chillsBy_37 : decode cX7_chillsBy 37 = .ok (.bipush 12, 2) := by decide +kernel
theorem dX7_chillsBy_39 : decode cX7_chillsBy 39 = .ok (.invokevirtual 279, 3) := by decide +kernel
theorem dX7_chillsBy_42 : decode cX7_chillsBy 42 = .ok (.iload_n 2, 1) := by decide +kernel
theorem dX7_chillsBy_43 : decode cX7_chillsBy 43 = .ok (.aload_n 0, 1) := by decide +kernel
theorem dX7_chillsBy_44 : decode cX7_chillsBy 44 = .ok (.aload_n 0, 1) := by decide +kernel
theorem dX7_chillsBy_45 : decode cX7_chillsBy 45 = .ok (.getfield 282, 3) := by decide +kernel
theorem dX7_chillsBy_48 : decode cX7_chillsBy 48 = .ok (.iconst 1, 1) := by decide +kernel
theorem dX7_chillsBy_49 : decode cX7_chillsBy 49 = .ok (.invokevirtual 150, 3) := by decide +kernel
theorem dX7_chillsBy_52 : decode cX7_chillsBy 52 = .ok (.isub, 1) := by decide +kernel
theorem dX7_chillsBy_53 : decode cX7_chillsBy 53 = .ok (.ireturn, 1) := by decide +kernel
theorem dX7_chillsBy_54 : decode cX7_chillsBy 54 = .ok (.aload_n 0, 1) := by decide +kernel
theorem dX7_chillsBy_55 : decode cX7_chillsBy 55 = .ok (.bipush 20, 2) := by decide +kernel
theorem dX7_chillsBy_57 : decode cX7_chillsBy 57 = .ok (.invokevirtual 279, 3) := by decide +kernel
theorem dX7_chillsBy_60 : decode cX7_chillsBy 60 = .ok (.aload_n 0, 1) := by decide +kernel
theorem dX7_chillsBy_61 : decode cX7_chillsBy 61 = .ok (.iconst 1, 1) := by decide +kernel
theorem dX7_chillsBy_62 : decode cX7_chillsBy 62 = .ok (.invokestatic 206, 3) := by decide +kernel
theorem dX7_chillsBy_65 : decode cX7_chillsBy 65 = .ok (.iload_n 2, 1) := by decide +kernel
theorem dX7_chillsBy_66 : decode cX7_chillsBy 66 = .ok (.invokevirtual 291, 3) := by decide +kernel
theorem dX7_chillsBy_69 : decode cX7_chillsBy 69 = .ok (.ineg, 1) := by decide +kernel
theorem dX7_chillsBy_70 : decode cX7_chillsBy 70 = .ok (.ireturn, 1) := by decide +kernel
theorem dX7_chillsBy_71 : decode cX7_chillsBy 71 = .ok (.aload_n 0, 1) := by decide +kernel
theorem dX7_chillsBy_72 : decode cX7_chillsBy 72 = .ok (.bipush 50, 2) := by decide +kernel
theorem dX7_chillsBy_74 : decode cX7_chillsBy 74 = .ok (.invokevirtual 279, 3) := by decide +kernel
theorem dX7_chillsBy_77 : decode cX7_chillsBy 77 = .ok (.aload_n 0, 1) := by decide +kernel
theorem dX7_chillsBy_78 : decode cX7_chillsBy 78 = .ok (.iconst 4, 1) := by decide +kernel
theorem dX7_chillsBy_79 : decode cX7_chillsBy 79 = .ok (.invokestatic 206, 3) := by decide +kernel
theorem dX7_chillsBy_82 : decode cX7_chillsBy 82 = .ok (.iload_n 2, 1) := by decide +kernel
theorem dX7_chillsBy_83 : decode cX7_chillsBy 83 = .ok (.invokevirtual 291, 3) := by decide +kernel
theorem dX7_chillsBy_86 : decode cX7_chillsBy 86 = .ok (.aload_n 0, 1) := by decide +kernel
theorem dX7_chillsBy_87 : decode cX7_chillsBy 87 = .ok (.getfield 282, 3) := by decide +kernel
theorem dX7_chillsBy_90 : decode cX7_chillsBy 90 = .ok (.ixor, 1) := by decide +kernel
theorem dX7_chillsBy_91 : decode cX7_chillsBy 91 = .ok (.ireturn, 1) := by decide +kernel
theorem dX7_chillsBy_92 : decode cX7_chillsBy 92 = .ok (.aload_n 0, 1) := by decide +kernel
theorem dX7_chillsBy_93 : decode cX7_chillsBy 93 = .ok (.iload_n 1, 1) := by decide +kernel
theorem dX7_chillsBy_94 : decode cX7_chillsBy 94 = .ok (.invokestatic 206, 3) := by decide +kernel
theorem dX7_chillsBy_97 : decode cX7_chillsBy 97 = .ok (.iload_n 2, 1) := by decide +kernel
theorem dX7_chillsBy_98 : decode cX7_chillsBy 98 = .ok (.invokevirtual 291, 3) := by decide +kernel
theorem dX7_chillsBy_101 : decode cX7_chillsBy 101 = .ok (.ireturn, 1) := by decide +kernel
theorem dX7_tellsBy_0 : decode cX7_tellsBy 0 = .ok (.iconst 0, 1) := by decide +kernel
theorem dX7_tellsBy_1 : decode cX7_tellsBy 1 = .ok (.istore_n 3, 1) := by decide +kernel
theorem dX7_tellsBy_2 : decode cX7_tellsBy 2 = .ok (.iload_n 1, 1) := by decide +kernel
theorem dX7_tellsBy_3 : decode cX7_tellsBy 3 = .ok (.lookupswitch 137 #[(0, 33), (4, 71), (5, 104)], 33) := by decide +kernel
theorem dX7_tellsBy_36 : decode cX7_tellsBy 36 = .ok (.aload_n 0, 1) := by decide +kernel
theorem dX7_tellsBy_37 : decode cX7_tellsBy 37 = .ok (.bipush 13, 2) := by decide +kernel
theorem dX7_tellsBy_39 : decode cX7_tellsBy 39 = .ok (.invokevirtual 279, 3) := by decide +kernel
theorem dX7_tellsBy_42 : decode cX7_tellsBy 42 = .ok (.aload_n 0, 1) := by decide +kernel
theorem dX7_tellsBy_43 : decode cX7_tellsBy 43 = .ok (.aload_n 0, 1) := by decide +kernel
theorem dX7_tellsBy_44 : decode cX7_tellsBy 44 = .ok (.aload_n 0, 1) := by decide +kernel
theorem dX7_tellsBy_45 : decode cX7_tellsBy 45 = .ok (.getfield 282, 3) := by decide +kernel
theorem dX7_tellsBy_48 : decode cX7_tellsBy 48 = .ok (.iconst 0, 1) := by decide +kernel
theorem dX7_tellsBy_49 : decode cX7_tellsBy 49 = .ok (.invokevirtual 150, 3) := by decide +kernel
theorem dX7_tellsBy_52 : decode cX7_tellsBy 52 = .ok (.iload_n 2, 1) := by decide +kernel
theorem dX7_tellsBy_53 : decode cX7_tellsBy 53 = .ok (.invokevirtual 288, 3) := by decide +kernel
theorem dX7_tellsBy_56 : decode cX7_tellsBy 56 = .ok (.istore_n 3, 1) := by decide +kernel
theorem dX7_tellsBy_57 : decode cX7_tellsBy 57 = .ok (.iload_n 3, 1) := by decide +kernel
theorem dX7_tellsBy_58 : decode cX7_tellsBy 58 = .ok (.aload_n 0, 1) := by decide +kernel
theorem dX7_tellsBy_59 : decode cX7_tellsBy 59 = .ok (.aload_n 0, 1) := by decide +kernel
theorem dX7_tellsBy_60 : decode cX7_tellsBy 60 = .ok (.aload_n 0, 1) := by decide +kernel
theorem dX7_tellsBy_61 : decode cX7_tellsBy 61 = .ok (.getfield 282, 3) := by decide +kernel
theorem dX7_tellsBy_64 : decode cX7_tellsBy 64 = .ok (.iconst 0, 1) := by decide +kernel
theorem dX7_tellsBy_65 : decode cX7_tellsBy 65 = .ok (.invokevirtual 150, 3) := by decide +kernel
theorem dX7_tellsBy_68 : decode cX7_tellsBy 68 = .ok (.iload_n 2, 1) := by decide +kernel
theorem dX7_tellsBy_69 : decode cX7_tellsBy 69 = .ok (.invokevirtual 291, 3) := by decide +kernel
theorem dX7_tellsBy_72 : decode cX7_tellsBy 72 = .ok (.ixor, 1) := by decide +kernel
theorem dX7_tellsBy_73 : decode cX7_tellsBy 73 = .ok (.ireturn, 1) := by decide +kernel
theorem dX7_tellsBy_74 : decode cX7_tellsBy 74 = .ok (.aload_n 0, 1) := by decide +kernel
theorem dX7_tellsBy_75 : decode cX7_tellsBy 75 = .ok (.bipush 51, 2) := by decide +kernel
theorem dX7_tellsBy_77 : decode cX7_tellsBy 77 = .ok (.invokevirtual 279, 3) := by decide +kernel
theorem dX7_tellsBy_80 : decode cX7_tellsBy 80 = .ok (.aload_n 0, 1) := by decide +kernel
theorem dX7_tellsBy_81 : decode cX7_tellsBy 81 = .ok (.aload_n 0, 1) := by decide +kernel
theorem dX7_tellsBy_82 : decode cX7_tellsBy 82 = .ok (.aload_n 0, 1) := by decide +kernel
theorem dX7_tellsBy_83 : decode cX7_tellsBy 83 = .ok (.getfield 282, 3) := by decide +kernel
theorem dX7_tellsBy_86 : decode cX7_tellsBy 86 = .ok (.iconst 0, 1) := by decide +kernel
theorem dX7_tellsBy_87 : decode cX7_tellsBy 87 = .ok (.invokevirtual 150, 3) := by decide +kernel
theorem dX7_tellsBy_90 : decode cX7_tellsBy 90 = .ok (.iload_n 2, 1) := by decide +kernel
theorem dX7_tellsBy_91 : decode cX7_tellsBy 91 = .ok (.invokevirtual 288, 3) := by decide +kernel
theorem dX7_tellsBy_94 : decode cX7_tellsBy 94 = .ok (.istore_n 3, 1) := by decide +kernel
theorem dX7_tellsBy_95 : decode cX7_tellsBy 95 = .ok (.iload_n 3, 1) := by decide +kernel
theorem dX7_tellsBy_96 : decode cX7_tellsBy 96 = .ok (.aload_n 0, 1) := by decide +kernel
theorem dX7_tellsBy_97 : decode cX7_tellsBy 97 = .ok (.iconst 4, 1) := by decide +kernel
theorem dX7_tellsBy_98 : decode cX7_tellsBy 98 = .ok (.invokestatic 206, 3) := by decide +kernel
theorem dX7_tellsBy_101 : decode cX7_tellsBy 101 = .ok (.iload_n 2, 1) := by decide +kernel
theorem dX7_tellsBy_102 : decode cX7_tellsBy 102 = .ok (.invokevirtual 294, 3) := by decide +kernel
theorem dX7_tellsBy_105 : decode cX7_tellsBy 105 = .ok (.isub, 1) := by decide +kernel
theorem dX7_tellsBy_106 : decode cX7_tellsBy 106 = .ok (.ireturn, 1) := by decide +kernel
theorem dX7_tellsBy_107 : decode cX7_tellsBy 107 = .ok (.aload_n 0, 1) := by decide +kernel
theorem dX7_tellsBy_108 : decode cX7_tellsBy 108 = .ok (.bipush 60, 2) := by decide +kernel
theorem dX7_tellsBy_110 : decode cX7_tellsBy 110 = .ok (.invokevirtual 279, 3) := by decide +kernel
theorem dX7_tellsBy_113 : decode cX7_tellsBy 113 = .ok (.aload_n 0, 1) := by decide +kernel
theorem dX7_tellsBy_114 : decode cX7_tellsBy 114 = .ok (.iconst 5, 1) := by decide +kernel
theorem dX7_tellsBy_115 : decode cX7_tellsBy 115 = .ok (.invokestatic 206, 3) := by decide +kernel
theorem dX7_tellsBy_118 : decode cX7_tellsBy 118 = .ok (.iload_n 2, 1) := by decide +kernel
theorem dX7_tellsBy_119 : decode cX7_tellsBy 119 = .ok (.invokevirtual 294, 3) := by decide +kernel
theorem dX7_tellsBy_122 : decode cX7_tellsBy 122 = .ok (.istore_n 3, 1) := by decide +kernel
theorem dX7_tellsBy_123 : decode cX7_tellsBy 123 = .ok (.iload_n 3, 1) := by decide +kernel
theorem dX7_tellsBy_124 : decode cX7_tellsBy 124 = .ok (.aload_n 0, 1) := by decide +kernel
theorem dX7_tellsBy_125 : decode cX7_tellsBy 125 = .ok (.aload_n 0, 1) := by decide +kernel
theorem dX7_tellsBy_126 : decode cX7_tellsBy 126 = .ok (.aload_n 0, 1) := by decide +kernel
theorem dX7_tellsBy_127 : decode cX7_tellsBy 127 = .ok (.getfield 282, 3) := by decide +kernel
theorem dX7_tellsBy_130 : decode cX7_tellsBy 130 = .ok (.iconst 0, 1) := by decide +kernel
theorem dX7_tellsBy_131 : decode cX7_tellsBy 131 = .ok (.invokevirtual 150, 3) := by decide +kernel
theorem dX7_tellsBy_134 : decode cX7_tellsBy 134 = .ok (.iconst 2, 1) := by decide +kernel
theorem dX7_tellsBy_135 : decode cX7_tellsBy 135 = .ok (.invokevirtual 285, 3) := by decide +kernel
theorem dX7_tellsBy_138 : decode cX7_tellsBy 138 = .ok (.isub, 1) := by decide +kernel
theorem dX7_tellsBy_139 : decode cX7_tellsBy 139 = .ok (.ireturn, 1) := by decide +kernel
theorem dX7_tellsBy_140 : decode cX7_tellsBy 140 = .ok (.aload_n 0, 1) := by decide +kernel
theorem dX7_tellsBy_141 : decode cX7_tellsBy 141 = .ok (.iload_n 1, 1) := by decide +kernel
theorem dX7_tellsBy_142 : decode cX7_tellsBy 142 = .ok (.invokestatic 206, 3) := by decide +kernel
theorem dX7_tellsBy_145 : decode cX7_tellsBy 145 = .ok (.iload_n 2, 1) := by decide +kernel
theorem dX7_tellsBy_146 : decode cX7_tellsBy 146 = .ok (.invokevirtual 294, 3) := by decide +kernel
theorem dX7_tellsBy_149 : decode cX7_tellsBy 149 = .ok (.ireturn, 1) := by decide +kernel
theorem dX7_voice_0 : decode cX7_voice 0 = .ok (.aload_n 0, 1) := by decide +kernel
theorem dX7_voice_1 : decode cX7_voice 1 = .ok (.iload_n 1, 1) := by decide +kernel
theorem dX7_voice_2 : decode cX7_voice 2 = .ok (.invokevirtual 189, 3) := by decide +kernel
theorem dX7_voice_5 : decode cX7_voice 5 = .ok (.ifCond .eq 15, 3) := by decide +kernel
theorem dX7_voice_8 : decode cX7_voice 8 = .ok (.iload_n 2, 1) := by decide +kernel
theorem dX7_voice_9 : decode cX7_voice 9 = .ok (.i2l, 1) := by decide +kernel
theorem dX7_voice_10 : decode cX7_voice 10 = .ok (.lconst 0, 1) := by decide +kernel
theorem dX7_voice_11 : decode cX7_voice 11 = .ok (.ldc2_w 200, 3) := by decide +kernel
theorem dX7_voice_14 : decode cX7_voice 14 = .ok (.invokestatic 53, 3) := by decide +kernel
theorem dX7_voice_17 : decode cX7_voice 17 = .ok (.ifCond .ne 9, 3) := by decide +kernel
theorem dX7_voice_20 : decode cX7_voice 20 = .ok (.aload_n 0, 1) := by decide +kernel
theorem dX7_voice_21 : decode cX7_voice 21 = .ok (.iconst 1, 1) := by decide +kernel
theorem dX7_voice_22 : decode cX7_voice 22 = .ok (.invokevirtual 130, 3) := by decide +kernel
theorem dX7_voice_25 : decode cX7_voice 25 = .ok (.ireturn, 1) := by decide +kernel
theorem dX7_voice_26 : decode cX7_voice 26 = .ok (.aload_n 0, 1) := by decide +kernel
theorem dX7_voice_27 : decode cX7_voice 27 = .ok (.iload_n 1, 1) := by decide +kernel
theorem dX7_voice_28 : decode cX7_voice 28 = .ok (.putfield 282, 3) := by decide +kernel
theorem dX7_voice_31 : decode cX7_voice 31 = .ok (.aload_n 0, 1) := by decide +kernel
theorem dX7_voice_32 : decode cX7_voice 32 = .ok (.iconst 0, 1) := by decide +kernel
theorem dX7_voice_33 : decode cX7_voice 33 = .ok (.putfield 276, 3) := by decide +kernel
theorem dX7_voice_36 : decode cX7_voice 36 = .ok (.aload_n 0, 1) := by decide +kernel
theorem dX7_voice_37 : decode cX7_voice 37 = .ok (.aload_n 0, 1) := by decide +kernel
theorem dX7_voice_38 : decode cX7_voice 38 = .ok (.getfield 282, 3) := by decide +kernel
theorem dX7_voice_41 : decode cX7_voice 41 = .ok (.iconst 0, 1) := by decide +kernel
theorem dX7_voice_42 : decode cX7_voice 42 = .ok (.invokevirtual 150, 3) := by decide +kernel
theorem dX7_voice_45 : decode cX7_voice 45 = .ok (.istore 4, 2) := by decide +kernel
theorem dX7_voice_47 : decode cX7_voice 47 = .ok (.iload_n 2, 1) := by decide +kernel
theorem dX7_voice_48 : decode cX7_voice 48 = .ok (.ifCond .ne 13, 3) := by decide +kernel
theorem dX7_voice_51 : decode cX7_voice 51 = .ok (.aload_n 0, 1) := by decide +kernel
theorem dX7_voice_52 : decode cX7_voice 52 = .ok (.iload 4, 2) := by decide +kernel
theorem dX7_voice_54 : decode cX7_voice 54 = .ok (.iload_n 3, 1) := by decide +kernel
theorem dX7_voice_55 : decode cX7_voice 55 = .ok (.invokevirtual 285, 3) := by decide +kernel
theorem dX7_voice_58 : decode cX7_voice 58 = .ok (.goto 40, 3) := by decide +kernel
theorem dX7_voice_61 : decode cX7_voice 61 = .ok (.iload_n 2, 1) := by decide +kernel
theorem dX7_voice_62 : decode cX7_voice 62 = .ok (.iconst 1, 1) := by decide +kernel
theorem dX7_voice_63 : decode cX7_voice 63 = .ok (.if_icmp .ne 13, 3) := by decide +kernel
theorem dX7_voice_66 : decode cX7_voice 66 = .ok (.aload_n 0, 1) := by decide +kernel
theorem dX7_voice_67 : decode cX7_voice 67 = .ok (.iload 4, 2) := by decide +kernel
theorem dX7_voice_69 : decode cX7_voice 69 = .ok (.iload_n 3, 1) := by decide +kernel
theorem dX7_voice_70 : decode cX7_voice 70 = .ok (.invokevirtual 288, 3) := by decide +kernel
theorem dX7_voice_73 : decode cX7_voice 73 = .ok (.goto 25, 3) := by decide +kernel
theorem dX7_voice_76 : decode cX7_voice 76 = .ok (.iload_n 2, 1) := by decide +kernel
theorem dX7_voice_77 : decode cX7_voice 77 = .ok (.iconst 2, 1) := by decide +kernel
theorem dX7_voice_78 : decode cX7_voice 78 = .ok (.if_icmp .ne 13, 3) := by decide +kernel
theorem dX7_voice_81 : decode cX7_voice 81 = .ok (.aload_n 0, 1) := by decide +kernel
theorem dX7_voice_82 : decode cX7_voice 82 = .ok (.iload 4, 2) := by decide +kernel
theorem dX7_voice_84 : decode cX7_voice 84 = .ok (.iload_n 3, 1) := by decide +kernel
theorem dX7_voice_85 : decode cX7_voice 85 = .ok (.invokevirtual 291, 3) := by decide +kernel
theorem dX7_voice_88 : decode cX7_voice 88 = .ok (.goto 10, 3) := by decide +kernel
theorem dX7_voice_91 : decode cX7_voice 91 = .ok (.aload_n 0, 1) := by decide +kernel
theorem dX7_voice_92 : decode cX7_voice 92 = .ok (.iload 4, 2) := by decide +kernel
theorem dX7_voice_94 : decode cX7_voice 94 = .ok (.iload_n 3, 1) := by decide +kernel
theorem dX7_voice_95 : decode cX7_voice 95 = .ok (.invokevirtual 294, 3) := by decide +kernel
theorem dX7_voice_98 : decode cX7_voice 98 = .ok (.ireturn, 1) := by decide +kernel
theorem dX7_trace_0 : decode cX7_trace 0 = .ok (.iload_n 1, 1) := by decide +kernel
theorem dX7_trace_1 : decode cX7_trace 1 = .ok (.i2l, 1) := by decide +kernel
theorem dX7_trace_2 : decode cX7_trace 2 = .ok (.lconst 0, 1) := by decide +kernel
theorem dX7_trace_3 : decode cX7_trace 3 = .ok (.aload_n 0, 1) := by decide +kernel
theorem dX7_trace_4 : decode cX7_trace 4 = .ok (.getfield 276, 3) := by decide +kernel
theorem dX7_trace_7 : decode cX7_trace 7 = .ok (.iconst 1, 1) := by decide +kernel
theorem dX7_trace_8 : decode cX7_trace 8 = .ok (.isub, 1) := by decide +kernel
theorem dX7_trace_9 : decode cX7_trace 9 = .ok (.i2l, 1) := by decide +kernel
theorem dX7_trace_10 : decode cX7_trace 10 = .ok (.invokestatic 53, 3) := by decide +kernel
theorem dX7_trace_13 : decode cX7_trace 13 = .ok (.ifCond .eq 12, 3) := by decide +kernel
theorem dX7_trace_16 : decode cX7_trace 16 = .ok (.aload_n 0, 1) := by decide +kernel
theorem dX7_trace_17 : decode cX7_trace 17 = .ok (.getfield 37, 3) := by decide +kernel
theorem dX7_trace_20 : decode cX7_trace 20 = .ok (.iload_n 1, 1) := by decide +kernel
theorem dX7_trace_21 : decode cX7_trace 21 = .ok (.iaload, 1) := by decide +kernel
theorem dX7_trace_22 : decode cX7_trace 22 = .ok (.goto 8, 3) := by decide +kernel
theorem dX7_trace_25 : decode cX7_trace 25 = .ok (.aload_n 0, 1) := by decide +kernel
theorem dX7_trace_26 : decode cX7_trace 26 = .ok (.iconst 2, 1) := by decide +kernel
theorem dX7_trace_27 : decode cX7_trace 27 = .ok (.invokevirtual 130, 3) := by decide +kernel
theorem dX7_trace_30 : decode cX7_trace 30 = .ok (.ireturn, 1) := by decide +kernel
theorem dX7_isSheet_0 : decode cX7_isSheet 0 = .ok (.iload_n 0, 1) := by decide +kernel
theorem dX7_isSheet_1 : decode cX7_isSheet 1 = .ok (.i2l, 1) := by decide +kernel
theorem dX7_isSheet_2 : decode cX7_isSheet 2 = .ok (.lconst 0, 1) := by decide +kernel
theorem dX7_isSheet_3 : decode cX7_isSheet 3 = .ok (.ldc2_w 200, 3) := by decide +kernel
theorem dX7_isSheet_6 : decode cX7_isSheet 6 = .ok (.invokestatic 53, 3) := by decide +kernel
theorem dX7_isSheet_9 : decode cX7_isSheet 9 = .ok (.ireturn, 1) := by decide +kernel
theorem dX7_sheet_0 : decode cX7_sheet 0 = .ok (.iload_n 1, 1) := by decide +kernel
theorem dX7_sheet_1 : decode cX7_sheet 1 = .ok (.invokestatic 273, 3) := by decide +kernel
theorem dX7_sheet_4 : decode cX7_sheet 4 = .ok (.ifCond .eq 25, 3) := by decide +kernel
theorem dX7_sheet_7 : decode cX7_sheet 7 = .ok (.iload_n 2, 1) := by decide +kernel
theorem dX7_sheet_8 : decode cX7_sheet 8 = .ok (.ifCond .eq 27, 3) := by decide +kernel
theorem dX7_sheet_11 : decode cX7_sheet 11 = .ok (.iload_n 2, 1) := by decide +kernel
theorem dX7_sheet_12 : decode cX7_sheet 12 = .ok (.bipush 8, 2) := by decide +kernel
theorem dX7_sheet_14 : decode cX7_sheet 14 = .ok (.if_icmp .eq 21, 3) := by decide +kernel
theorem dX7_sheet_17 : decode cX7_sheet 17 = .ok (.iload_n 2, 1) := by decide +kernel
theorem dX7_sheet_18 : decode cX7_sheet 18 = .ok (.bipush 16, 2) := by decide +kernel
theorem dX7_sheet_20 : decode cX7_sheet 20 = .ok (.if_icmp .eq 15, 3) := by decide +kernel
theorem dX7_sheet_23 : decode cX7_sheet 23 = .ok (.iload_n 2, 1) := by decide +kernel
theorem dX7_sheet_24 : decode cX7_sheet 24 = .ok (.bipush 32, 2) := by decide +kernel
theorem dX7_sheet_26 : decode cX7_sheet 26 = .ok (.if_icmp .eq 9, 3) := by decide +kernel
theorem dX7_sheet_29 : decode cX7_sheet 29 = .ok (.aload_n 0, 1) := by decide +kernel
theorem dX7_sheet_30 : decode cX7_sheet 30 = .ok (.iconst 1, 1) := by decide +kernel
theorem dX7_sheet_31 : decode cX7_sheet 31 = .ok (.invokevirtual 130, 3) := by decide +kernel
theorem dX7_sheet_34 : decode cX7_sheet 34 = .ok (.ireturn, 1) := by decide +kernel
theorem dX7_sheet_35 : decode cX7_sheet 35 = .ok (.iload_n 2, 1) := by decide +kernel
theorem dX7_sheet_36 : decode cX7_sheet 36 = .ok (.ifCond .eq 13, 3) := by decide +kernel
theorem dX7_sheet_39 : decode cX7_sheet 39 = .ok (.iload_n 3, 1) := by decide +kernel
theorem dX7_sheet_40 : decode cX7_sheet 40 = .ok (.ifCond .ge 9, 3) := by decide +kernel
theorem dX7_sheet_43 : decode cX7_sheet 43 = .ok (.aload_n 0, 1) := by decide +kernel
theorem dX7_sheet_44 : decode cX7_sheet 44 = .ok (.iconst 3, 1) := by decide +kernel
theorem dX7_sheet_45 : decode cX7_sheet 45 = .ok (.invokevirtual 130, 3) := by decide +kernel
theorem dX7_sheet_48 : decode cX7_sheet 48 = .ok (.ireturn, 1) := by decide +kernel
theorem dX7_sheet_49 : decode cX7_sheet 49 = .ok (.iload_n 2, 1) := by decide +kernel
theorem dX7_sheet_50 : decode cX7_sheet 50 = .ok (.ifCond .eq 15, 3) := by decide +kernel
theorem dX7_sheet_53 : decode cX7_sheet 53 = .ok (.iload_n 3, 1) := by decide +kernel
theorem dX7_sheet_54 : decode cX7_sheet 54 = .ok (.bipush 40, 2) := by decide +kernel
theorem dX7_sheet_56 : decode cX7_sheet 56 = .ok (.if_icmp .le 9, 3) := by decide +kernel
theorem dX7_sheet_59 : decode cX7_sheet 59 = .ok (.aload_n 0, 1) := by decide +kernel
theorem dX7_sheet_60 : decode cX7_sheet 60 = .ok (.iconst 1, 1) := by decide +kernel
theorem dX7_sheet_61 : decode cX7_sheet 61 = .ok (.invokevirtual 130, 3) := by decide +kernel
theorem dX7_sheet_64 : decode cX7_sheet 64 = .ok (.ireturn, 1) := by decide +kernel
theorem dX7_sheet_65 : decode cX7_sheet 65 = .ok (.aload_n 0, 1) := by decide +kernel
theorem dX7_sheet_66 : decode cX7_sheet 66 = .ok (.getfield 40, 3) := by decide +kernel
theorem dX7_sheet_69 : decode cX7_sheet 69 = .ok (.iload_n 1, 1) := by decide +kernel
theorem dX7_sheet_70 : decode cX7_sheet 70 = .ok (.iload_n 2, 1) := by decide +kernel
theorem dX7_sheet_71 : decode cX7_sheet 71 = .ok (.iastore, 1) := by decide +kernel
theorem dX7_sheet_72 : decode cX7_sheet 72 = .ok (.aload_n 0, 1) := by decide +kernel
theorem dX7_sheet_73 : decode cX7_sheet 73 = .ok (.getfield 43, 3) := by decide +kernel
theorem dX7_sheet_76 : decode cX7_sheet 76 = .ok (.iload_n 1, 1) := by decide +kernel
theorem dX7_sheet_77 : decode cX7_sheet 77 = .ok (.iload_n 2, 1) := by decide +kernel
theorem dX7_sheet_78 : decode cX7_sheet 78 = .ok (.ifCond .ne 7, 3) := by decide +kernel
theorem dX7_sheet_81 : decode cX7_sheet 81 = .ok (.iconst 0, 1) := by decide +kernel
theorem dX7_sheet_82 : decode cX7_sheet 82 = .ok (.goto 4, 3) := by decide +kernel
theorem dX7_sheet_85 : decode cX7_sheet 85 = .ok (.iload_n 3, 1) := by decide +kernel
theorem dX7_sheet_86 : decode cX7_sheet 86 = .ok (.iastore, 1) := by decide +kernel
theorem dX7_sheet_87 : decode cX7_sheet 87 = .ok (.iconst 0, 1) := by decide +kernel
theorem dX7_sheet_88 : decode cX7_sheet 88 = .ok (.istore 4, 2) := by decide +kernel
theorem dX7_sheet_90 : decode cX7_sheet 90 = .ok (.iload 4, 2) := by decide +kernel
theorem dX7_sheet_92 : decode cX7_sheet 92 = .ok (.bipush 40, 2) := by decide +kernel
theorem dX7_sheet_94 : decode cX7_sheet 94 = .ok (.if_icmp .ge 22, 3) := by decide +kernel
theorem dX7_sheet_97 : decode cX7_sheet 97 = .ok (.aload_n 0, 1) := by decide +kernel
theorem dX7_sheet_98 : decode cX7_sheet 98 = .ok (.getfield 46, 3) := by decide +kernel
theorem dX7_sheet_101 : decode cX7_sheet 101 = .ok (.bipush 40, 2) := by decide +kernel
theorem dX7_sheet_103 : decode cX7_sheet 103 = .ok (.iload_n 1, 1) := by decide +kernel
theorem dX7_sheet_104 : decode cX7_sheet 104 = .ok (.imul, 1) := by decide +kernel
theorem dX7_sheet_105 : decode cX7_sheet 105 = .ok (.iload 4, 2) := by decide +kernel
theorem dX7_sheet_107 : decode cX7_sheet 107 = .ok (.iadd, 1) := by decide +kernel
theorem dX7_sheet_108 : decode cX7_sheet 108 = .ok (.iconst 0, 1) := by decide +kernel
theorem dX7_sheet_109 : decode cX7_sheet 109 = .ok (.iastore, 1) := by decide +kernel
theorem dX7_sheet_110 : decode cX7_sheet 110 = .ok (.iinc 4 1, 3) := by decide +kernel
theorem dX7_sheet_113 : decode cX7_sheet 113 = .ok (.goto (-23), 3) := by decide +kernel
theorem dX7_sheet_116 : decode cX7_sheet 116 = .ok (.iconst 1, 1) := by decide +kernel
theorem dX7_sheet_117 : decode cX7_sheet 117 = .ok (.ireturn, 1) := by decide +kernel
theorem dX7_put_0 : decode cX7_put 0 = .ok (.iload_n 1, 1) := by decide +kernel
theorem dX7_put_1 : decode cX7_put 1 = .ok (.invokestatic 273, 3) := by decide +kernel
theorem dX7_put_4 : decode cX7_put 4 = .ok (.ifCond .ne 9, 3) := by decide +kernel
theorem dX7_put_7 : decode cX7_put 7 = .ok (.aload_n 0, 1) := by decide +kernel
theorem dX7_put_8 : decode cX7_put 8 = .ok (.iconst 1, 1) := by decide +kernel
theorem dX7_put_9 : decode cX7_put 9 = .ok (.invokevirtual 130, 3) := by decide +kernel
theorem dX7_put_12 : decode cX7_put 12 = .ok (.ireturn, 1) := by decide +kernel
theorem dX7_put_13 : decode cX7_put 13 = .ok (.aload_n 0, 1) := by decide +kernel
theorem dX7_put_14 : decode cX7_put 14 = .ok (.getfield 40, 3) := by decide +kernel
theorem dX7_put_17 : decode cX7_put 17 = .ok (.iload_n 1, 1) := by decide +kernel
theorem dX7_put_18 : decode cX7_put 18 = .ok (.iaload, 1) := by decide +kernel
theorem dX7_put_19 : decode cX7_put 19 = .ok (.ifCond .ne 9, 3) := by decide +kernel
theorem dX7_put_22 : decode cX7_put 22 = .ok (.aload_n 0, 1) := by decide +kernel
theorem dX7_put_23 : decode cX7_put 23 = .ok (.iconst 2, 1) := by decide +kernel
theorem dX7_put_24 : decode cX7_put 24 = .ok (.invokevirtual 130, 3) := by decide +kernel
theorem dX7_put_27 : decode cX7_put 27 = .ok (.ireturn, 1) := by decide +kernel
theorem dX7_put_28 : decode cX7_put 28 = .ok (.iload_n 2, 1) := by decide +kernel
theorem dX7_put_29 : decode cX7_put 29 = .ok (.i2l, 1) := by decide +kernel
theorem dX7_put_30 : decode cX7_put 30 = .ok (.lconst 0, 1) := by decide +kernel
theorem dX7_put_31 : decode cX7_put 31 = .ok (.aload_n 0, 1) := by decide +kernel
theorem dX7_put_32 : decode cX7_put 32 = .ok (.getfield 43, 3) := by decide +kernel
theorem dX7_put_35 : decode cX7_put 35 = .ok (.iload_n 1, 1) := by decide +kernel
theorem dX7_put_36 : decode cX7_put 36 = .ok (.iaload, 1) := by decide +kernel
theorem dX7_put_37 : decode cX7_put 37 = .ok (.iconst 1, 1) := by decide +kernel
theorem dX7_put_38 : decode cX7_put 38 = .ok (.isub, 1) := by decide +kernel
theorem dX7_put_39 : decode cX7_put 39 = .ok (.i2l, 1) := by decide +kernel
theorem dX7_put_40 : decode cX7_put 40 = .ok (.invokestatic 53, 3) := by decide +kernel
theorem dX7_put_43 : decode cX7_put 43 = .ok (.ifCond .ne 9, 3) := by decide +kernel
theorem dX7_put_46 : decode cX7_put 46 = .ok (.aload_n 0, 1) := by decide +kernel
theorem dX7_put_47 : decode cX7_put 47 = .ok (.iconst 1, 1) := by decide +kernel
theorem dX7_put_48 : decode cX7_put 48 = .ok (.invokevirtual 130, 3) := by decide +kernel
theorem dX7_put_51 : decode cX7_put 51 = .ok (.ireturn, 1) := by decide +kernel
theorem dX7_put_52 : decode cX7_put 52 = .ok (.aload_n 0, 1) := by decide +kernel
theorem dX7_put_53 : decode cX7_put 53 = .ok (.getfield 46, 3) := by decide +kernel
theorem dX7_put_56 : decode cX7_put 56 = .ok (.bipush 40, 2) := by decide +kernel
theorem dX7_put_58 : decode cX7_put 58 = .ok (.iload_n 1, 1) := by decide +kernel
theorem dX7_put_59 : decode cX7_put 59 = .ok (.imul, 1) := by decide +kernel
theorem dX7_put_60 : decode cX7_put 60 = .ok (.iload_n 2, 1) := by decide +kernel
theorem dX7_put_61 : decode cX7_put 61 = .ok (.iadd, 1) := by decide +kernel
theorem dX7_put_62 : decode cX7_put 62 = .ok (.aload_n 0, 1) := by decide +kernel
theorem dX7_put_63 : decode cX7_put 63 = .ok (.getfield 40, 3) := by decide +kernel
theorem dX7_put_66 : decode cX7_put 66 = .ok (.iload_n 1, 1) := by decide +kernel
theorem dX7_put_67 : decode cX7_put 67 = .ok (.iaload, 1) := by decide +kernel
theorem dX7_put_68 : decode cX7_put 68 = .ok (.bipush 8, 2) := by decide +kernel
theorem dX7_put_70 : decode cX7_put 70 = .ok (.if_icmp .ne 8, 3) := by decide +kernel
theorem dX7_put_73 : decode cX7_put 73 = .ok (.iload_n 3, 1) := by decide +kernel
theorem dX7_put_74 : decode cX7_put 74 = .ok (.i2b, 1) := by decide +kernel
theorem dX7_put_75 : decode cX7_put 75 = .ok (.goto 20, 3) := by decide +kernel
theorem dX7_put_78 : decode cX7_put 78 = .ok (.aload_n 0, 1) := by decide +kernel
theorem dX7_put_79 : decode cX7_put 79 = .ok (.getfield 40, 3) := by decide +kernel
theorem dX7_put_82 : decode cX7_put 82 = .ok (.iload_n 1, 1) := by decide +kernel
theorem dX7_put_83 : decode cX7_put 83 = .ok (.iaload, 1) := by decide +kernel
theorem dX7_put_84 : decode cX7_put 84 = .ok (.bipush 16, 2) := by decide +kernel
theorem dX7_put_86 : decode cX7_put 86 = .ok (.if_icmp .ne 8, 3) := by decide +kernel
theorem dX7_put_89 : decode cX7_put 89 = .ok (.iload_n 3, 1) := by decide +kernel
theorem dX7_put_90 : decode cX7_put 90 = .ok (.i2s, 1) := by decide +kernel
theorem dX7_put_91 : decode cX7_put 91 = .ok (.goto 4, 3) := by decide +kernel
theorem dX7_put_94 : decode cX7_put 94 = .ok (.iload_n 3, 1) := by decide +kernel
theorem dX7_put_95 : decode cX7_put 95 = .ok (.iastore, 1) := by decide +kernel
theorem dX7_put_96 : decode cX7_put 96 = .ok (.iconst 1, 1) := by decide +kernel
theorem dX7_put_97 : decode cX7_put 97 = .ok (.ireturn, 1) := by decide +kernel
theorem dX7_move_0 : decode cX7_move 0 = .ok (.iload_n 1, 1) := by decide +kernel
theorem dX7_move_1 : decode cX7_move 1 = .ok (.invokestatic 273, 3) := by decide +kernel
theorem dX7_move_4 : decode cX7_move 4 = .ok (.ifCond .eq 10, 3) := by decide +kernel
theorem dX7_move_7 : decode cX7_move 7 = .ok (.iload_n 3, 1) := by decide +kernel
theorem dX7_move_8 : decode cX7_move 8 = .ok (.invokestatic 273, 3) := by decide +kernel
theorem dX7_move_11 : decode cX7_move 11 = .ok (.ifCond .ne 9, 3) := by decide +kernel
theorem dX7_move_14 : decode cX7_move 14 = .ok (.aload_n 0, 1) := by decide +kernel
theorem dX7_move_15 : decode cX7_move 15 = .ok (.iconst 1, 1) := by decide +kernel
theorem dX7_move_16 : decode cX7_move 16 = .ok (.invokevirtual 130, 3) := by decide +kernel
theorem dX7_move_19 : decode cX7_move 19 = .ok (.ireturn, 1) := by decide +kernel
theorem dX7_move_20 : decode cX7_move 20 = .ok (.aload_n 0, 1) := by decide +kernel
theorem dX7_move_21 : decode cX7_move 21 = .ok (.getfield 40, 3) := by decide +kernel
theorem dX7_move_24 : decode cX7_move 24 = .ok (.iload_n 1, 1) := by decide +kernel
theorem dX7_move_25 : decode cX7_move 25 = .ok (.iaload, 1) := by decide +kernel
theorem dX7_move_26 : decode cX7_move 26 = .ok (.ifCond .eq 12, 3) := by decide +kernel
theorem dX7_move_29 : decode cX7_move 29 = .ok (.aload_n 0, 1) := by decide +kernel
theorem dX7_move_30 : decode cX7_move 30 = .ok (.getfield 40, 3) := by decide +kernel
theorem dX7_move_33 : decode cX7_move 33 = .ok (.iload_n 3, 1) := by decide +kernel
theorem dX7_move_34 : decode cX7_move 34 = .ok (.iaload, 1) := by decide +kernel
theorem dX7_move_35 : decode cX7_move 35 = .ok (.ifCond .ne 9, 3) := by decide +kernel
theorem dX7_move_38 : decode cX7_move 38 = .ok (.aload_n 0, 1) := by decide +kernel
theorem dX7_move_39 : decode cX7_move 39 = .ok (.iconst 2, 1) := by decide +kernel
theorem dX7_move_40 : decode cX7_move 40 = .ok (.invokevirtual 130, 3) := by decide +kernel
theorem dX7_move_43 : decode cX7_move 43 = .ok (.ireturn, 1) := by decide +kernel
theorem dX7_move_44 : decode cX7_move 44 = .ok (.aload_n 0, 1) := by decide +kernel
theorem dX7_move_45 : decode cX7_move 45 = .ok (.getfield 40, 3) := by decide +kernel
theorem dX7_move_48 : decode cX7_move 48 = .ok (.iload_n 1, 1) := by decide +kernel
theorem dX7_move_49 : decode cX7_move 49 = .ok (.iaload, 1) := by decide +kernel
theorem dX7_move_50 : decode cX7_move 50 = .ok (.aload_n 0, 1) := by decide +kernel
theorem dX7_move_51 : decode cX7_move 51 = .ok (.getfield 40, 3) := by decide +kernel
theorem dX7_move_54 : decode cX7_move 54 = .ok (.iload_n 3, 1) := by decide +kernel
theorem dX7_move_55 : decode cX7_move 55 = .ok (.iaload, 1) := by decide +kernel
theorem dX7_move_56 : decode cX7_move 56 = .ok (.if_icmp .eq 9, 3) := by decide +kernel
theorem dX7_move_59 : decode cX7_move 59 = .ok (.aload_n 0, 1) := by decide +kernel
theorem dX7_move_60 : decode cX7_move 60 = .ok (.iconst 5, 1) := by decide +kernel
theorem dX7_move_61 : decode cX7_move 61 = .ok (.invokevirtual 130, 3) := by decide +kernel
theorem dX7_move_64 : decode cX7_move 64 = .ok (.ireturn, 1) := by decide +kernel
theorem dX7_move_65 : decode cX7_move 65 = .ok (.iload 5, 2) := by decide +kernel
theorem dX7_move_67 : decode cX7_move 67 = .ok (.ifCond .lt 39, 3) := by decide +kernel
theorem dX7_move_70 : decode cX7_move 70 = .ok (.iload_n 2, 1) := by decide +kernel
theorem dX7_move_71 : decode cX7_move 71 = .ok (.ifCond .lt 35, 3) := by decide +kernel
theorem dX7_move_74 : decode cX7_move 74 = .ok (.iload 4, 2) := by decide +kernel
theorem dX7_move_76 : decode cX7_move 76 = .ok (.ifCond .lt 30, 3) := by decide +kernel
theorem dX7_move_79 : decode cX7_move 79 = .ok (.iload 5, 2) := by decide +kernel
theorem dX7_move_81 : decode cX7_move 81 = .ok (.aload_n 0, 1) := by decide +kernel
theorem dX7_move_82 : decode cX7_move 82 = .ok (.getfield 43, 3) := by decide +kernel
theorem dX7_move_85 : decode cX7_move 85 = .ok (.iload_n 1, 1) := by decide +kernel
theorem dX7_move_86 : decode cX7_move 86 = .ok (.iaload, 1) := by decide +kernel
theorem dX7_move_87 : decode cX7_move 87 = .ok (.iload_n 2, 1) := by decide +kernel
theorem dX7_move_88 : decode cX7_move 88 = .ok (.isub, 1) := by decide +kernel
theorem dX7_move_89 : decode cX7_move 89 = .ok (.if_icmp .gt 17, 3) := by decide +kernel
theorem dX7_move_92 : decode cX7_move 92 = .ok (.iload 5, 2) := by decide +kernel
theorem dX7_move_94 : decode cX7_move 94 = .ok (.aload_n 0, 1) := by decide +kernel
theorem dX7_move_95 : decode cX7_move 95 = .ok (.getfield 43, 3) := by decide +kernel
theorem dX7_move_98 : decode cX7_move 98 = .ok (.iload_n 3, 1) := by decide +kernel
theorem dX7_move_99 : decode cX7_move 99 = .ok (.iaload, 1) := by decide +kernel
theorem dX7_move_100 : decode cX7_move 100 = .ok (.iload 4, 2) := by decide +kernel
theorem dX7_move_102 : decode cX7_move 102 = .ok (.isub, 1) := by decide +kernel
theorem dX7_move_103 : decode cX7_move 103 = .ok (.if_icmp .le 9, 3) := by decide +kernel
theorem dX7_move_106 : decode cX7_move 106 = .ok (.aload_n 0, 1) := by decide +kernel
theorem dX7_move_107 : decode cX7_move 107 = .ok (.iconst 1, 1) := by decide +kernel
theorem dX7_move_108 : decode cX7_move 108 = .ok (.invokevirtual 130, 3) := by decide +kernel
theorem dX7_move_111 : decode cX7_move 111 = .ok (.ireturn, 1) := by decide +kernel
theorem dX7_move_112 : decode cX7_move 112 = .ok (.iconst 0, 1) := by decide +kernel
theorem dX7_move_113 : decode cX7_move 113 = .ok (.istore 6, 2) := by decide +kernel
theorem dX7_move_115 : decode cX7_move 115 = .ok (.iload 6, 2) := by decide +kernel
theorem dX7_move_117 : decode cX7_move 117 = .ok (.iload 5, 2) := by decide +kernel
theorem dX7_move_119 : decode cX7_move 119 = .ok (.if_icmp .ge 30, 3) := by decide +kernel
theorem dX7_move_122 : decode cX7_move 122 = .ok (.aload_n 0, 1) := by decide +kernel
theorem dX7_move_123 : decode cX7_move 123 = .ok (.getfield 49, 3) := by decide +kernel
theorem dX7_move_126 : decode cX7_move 126 = .ok (.iload 6, 2) := by decide +kernel
theorem dX7_move_128 : decode cX7_move 128 = .ok (.aload_n 0, 1) := by decide +kernel
theorem dX7_move_129 : decode cX7_move 129 = .ok (.getfield 46, 3) := by decide +kernel
theorem dX7_move_132 : decode cX7_move 132 = .ok (.bipush 40, 2) := by decide +kernel
theorem dX7_move_134 : decode cX7_move 134 = .ok (.iload_n 1, 1) := by decide +kernel
theorem dX7_move_135 : decode cX7_move 135 = .ok (.imul, 1) := by decide +kernel
theorem dX7_move_136 : decode cX7_move 136 = .ok (.iload_n 2, 1) := by decide +kernel
theorem dX7_move_137 : decode cX7_move 137 = .ok (.iadd, 1) := by decide +kernel
theorem dX7_move_138 : decode cX7_move 138 = .ok (.iload 6, 2) := by decide +kernel
theorem dX7_move_140 : decode cX7_move 140 = .ok (.iadd, 1) := by decide +kernel
theorem dX7_move_141 : decode cX7_move 141 = .ok (.iaload, 1) := by decide +kernel
theorem dX7_move_142 : decode cX7_move 142 = .ok (.iastore, 1) := by decide +kernel
theorem dX7_move_143 : decode cX7_move 143 = .ok (.iinc 6 1, 3) := by decide +kernel
theorem dX7_move_146 : decode cX7_move 146 = .ok (.goto (-31), 3) := by decide +kernel
theorem dX7_move_149 : decode cX7_move 149 = .ok (.iconst 0, 1) := by decide +kernel
theorem dX7_move_150 : decode cX7_move 150 = .ok (.istore 6, 2) := by decide +kernel
theorem dX7_move_152 : decode cX7_move 152 = .ok (.iload 6, 2) := by decide +kernel
theorem dX7_move_154 : decode cX7_move 154 = .ok (.iload 5, 2) := by decide +kernel
theorem dX7_move_156 : decode cX7_move 156 = .ok (.if_icmp .ge 31, 3) := by decide +kernel
theorem dX7_move_159 : decode cX7_move 159 = .ok (.aload_n 0, 1) := by decide +kernel
theorem dX7_move_160 : decode cX7_move 160 = .ok (.getfield 46, 3) := by decide +kernel
theorem dX7_move_163 : decode cX7_move 163 = .ok (.bipush 40, 2) := by decide +kernel
theorem dX7_move_165 : decode cX7_move 165 = .ok (.iload_n 3, 1) := by decide +kernel
theorem dX7_move_166 : decode cX7_move 166 = .ok (.imul, 1) := by decide +kernel
theorem dX7_move_167 : decode cX7_move 167 = .ok (.iload 4, 2) := by decide +kernel
theorem dX7_move_169 : decode cX7_move 169 = .ok (.iadd, 1) := by decide +kernel
theorem dX7_move_170 : decode cX7_move 170 = .ok (.iload 6, 2) := by decide +kernel
theorem dX7_move_172 : decode cX7_move 172 = .ok (.iadd, 1) := by decide +kernel
theorem dX7_move_173 : decode cX7_move 173 = .ok (.aload_n 0, 1) := by decide +kernel
theorem dX7_move_174 : decode cX7_move 174 = .ok (.getfield 49, 3) := by decide +kernel
theorem dX7_move_177 : decode cX7_move 177 = .ok (.iload 6, 2) := by decide +kernel
theorem dX7_move_179 : decode cX7_move 179 = .ok (.iaload, 1) := by decide +kernel
theorem dX7_move_180 : decode cX7_move 180 = .ok (.iastore, 1) := by decide +kernel
theorem dX7_move_181 : decode cX7_move 181 = .ok (.iinc 6 1, 3) := by decide +kernel
theorem dX7_move_184 : decode cX7_move 184 = .ok (.goto (-32), 3) := by decide +kernel
theorem dX7_move_187 : decode cX7_move 187 = .ok (.iload 5, 2) := by decide +kernel
theorem dX7_move_189 : decode cX7_move 189 = .ok (.ireturn, 1) := by decide +kernel
theorem dX7_healths_0 : decode cX7_healths 0 = .ok (.iload_n 1, 1) := by decide +kernel
theorem dX7_healths_1 : decode cX7_healths 1 = .ok (.invokestatic 273, 3) := by decide +kernel
theorem dX7_healths_4 : decode cX7_healths 4 = .ok (.ifCond .ne 9, 3) := by decide +kernel
theorem dX7_healths_7 : decode cX7_healths 7 = .ok (.aload_n 0, 1) := by decide +kernel
theorem dX7_healths_8 : decode cX7_healths 8 = .ok (.iconst 1, 1) := by decide +kernel
theorem dX7_healths_9 : decode cX7_healths 9 = .ok (.invokevirtual 130, 3) := by decide +kernel
theorem dX7_healths_12 : decode cX7_healths 12 = .ok (.ireturn, 1) := by decide +kernel
theorem dX7_healths_13 : decode cX7_healths 13 = .ok (.aload_n 0, 1) := by decide +kernel
theorem dX7_healths_14 : decode cX7_healths 14 = .ok (.getfield 40, 3) := by decide +kernel
theorem dX7_healths_17 : decode cX7_healths 17 = .ok (.iload_n 1, 1) := by decide +kernel
theorem dX7_healths_18 : decode cX7_healths 18 = .ok (.iaload, 1) := by decide +kernel
theorem dX7_healths_19 : decode cX7_healths 19 = .ok (.ifCond .ne 9, 3) := by decide +kernel
theorem dX7_healths_22 : decode cX7_healths 22 = .ok (.aload_n 0, 1) := by decide +kernel
theorem dX7_healths_23 : decode cX7_healths 23 = .ok (.iconst 2, 1) := by decide +kernel
theorem dX7_healths_24 : decode cX7_healths 24 = .ok (.invokevirtual 130, 3) := by decide +kernel
theorem dX7_healths_27 : decode cX7_healths 27 = .ok (.ireturn, 1) := by decide +kernel
theorem dX7_healths_28 : decode cX7_healths 28 = .ok (.iconst 0, 1) := by decide +kernel
theorem dX7_healths_29 : decode cX7_healths 29 = .ok (.istore_n 2, 1) := by decide +kernel
theorem dX7_healths_30 : decode cX7_healths 30 = .ok (.iload_n 2, 1) := by decide +kernel
theorem dX7_healths_31 : decode cX7_healths 31 = .ok (.aload_n 0, 1) := by decide +kernel
theorem dX7_healths_32 : decode cX7_healths 32 = .ok (.getfield 43, 3) := by decide +kernel
theorem dX7_healths_35 : decode cX7_healths 35 = .ok (.iload_n 1, 1) := by decide +kernel
theorem dX7_healths_36 : decode cX7_healths 36 = .ok (.iaload, 1) := by decide +kernel
theorem dX7_healths_37 : decode cX7_healths 37 = .ok (.if_icmp .ge 58, 3) := by decide +kernel
theorem dX7_healths_40 : decode cX7_healths 40 = .ok (.iload_n 2, 1) := by decide +kernel
theorem dX7_healths_41 : decode cX7_healths 41 = .ok (.aload_n 0, 1) := by decide +kernel
theorem dX7_healths_42 : decode cX7_healths 42 = .ok (.getfield 7, 3) := by decide +kernel
theorem dX7_healths_45 : decode cX7_healths 45 = .ok (.iconst 0, 1) := by decide +kernel
theorem dX7_healths_46 : decode cX7_healths 46 = .ok (.iaload, 1) := by decide +kernel
theorem dX7_healths_47 : decode cX7_healths 47 = .ok (.if_icmp .ge 48, 3) := by decide +kernel
theorem dX7_healths_50 : decode cX7_healths 50 = .ok (.aload_n 0, 1) := by decide +kernel
theorem dX7_healths_51 : decode cX7_healths 51 = .ok (.getfield 46, 3) := by decide +kernel
theorem dX7_healths_54 : decode cX7_healths 54 = .ok (.bipush 40, 2) := by decide +kernel
theorem dX7_healths_56 : decode cX7_healths 56 = .ok (.iload_n 1, 1) := by decide +kernel
theorem dX7_healths_57 : decode cX7_healths 57 = .ok (.imul, 1) := by decide +kernel
theorem dX7_healths_58 : decode cX7_healths 58 = .ok (.iload_n 2, 1) := by decide +kernel
theorem dX7_healths_59 : decode cX7_healths 59 = .ok (.iadd, 1) := by decide +kernel
theorem dX7_healths_60 : decode cX7_healths 60 = .ok (.iaload, 1) := by decide +kernel
theorem dX7_healths_61 : decode cX7_healths 61 = .ok (.i2l, 1) := by decide +kernel
theorem dX7_healths_62 : decode cX7_healths 62 = .ok (.lconst 0, 1) := by decide +kernel
theorem dX7_healths_63 : decode cX7_healths 63 = .ok (.ldc2_w 202, 3) := by decide +kernel
theorem dX7_healths_66 : decode cX7_healths 66 = .ok (.invokestatic 53, 3) := by decide +kernel
theorem dX7_healths_69 : decode cX7_healths 69 = .ok (.ifCond .eq 26, 3) := by decide +kernel
theorem dX7_healths_72 : decode cX7_healths 72 = .ok (.aload_n 0, 1) := by decide +kernel
theorem dX7_healths_73 : decode cX7_healths 73 = .ok (.iload_n 2, 1) := by decide +kernel
theorem dX7_healths_74 : decode cX7_healths 74 = .ok (.iconst 5, 1) := by decide +kernel
theorem dX7_healths_75 : decode cX7_healths 75 = .ok (.aload_n 0, 1) := by decide +kernel
theorem dX7_healths_76 : decode cX7_healths 76 = .ok (.getfield 46, 3) := by decide +kernel
theorem dX7_healths_79 : decode cX7_healths 79 = .ok (.bipush 40, 2) := by decide +kernel
theorem dX7_healths_81 : decode cX7_healths 81 = .ok (.iload_n 1, 1) := by decide +kernel
theorem dX7_healths_82 : decode cX7_healths 82 = .ok (.imul, 1) := by decide +kernel
theorem dX7_healths_83 : decode cX7_healths 83 = .ok (.iload_n 2, 1) := by decide +kernel
theorem dX7_healths_84 : decode cX7_healths 84 = .ok (.iadd, 1) := by decide +kernel
theorem dX7_healths_85 : decode cX7_healths 85 = .ok (.iaload, 1) := by decide +kernel
theorem dX7_healths_86 : decode cX7_healths 86 = .ok (.invokevirtual 186, 3) := by decide +kernel
theorem dX7_healths_89 : decode cX7_healths 89 = .ok (.iinc 2 1, 3) := by decide +kernel
theorem dX7_healths_92 : decode cX7_healths 92 = .ok (.goto (-62), 3) := by decide +kernel
theorem dX7_healths_95 : decode cX7_healths 95 = .ok (.iload_n 2, 1) := by decide +kernel
theorem dX7_healths_96 : decode cX7_healths 96 = .ok (.ireturn, 1) := by decide +kernel
theorem dX7_judge_0 : decode cX7_judge 0 = .ok (.iload_n 1, 1) := by decide +kernel
theorem dX7_judge_1 : decode cX7_judge 1 = .ok (.invokestatic 273, 3) := by decide +kernel
theorem dX7_judge_4 : decode cX7_judge 4 = .ok (.ifCond .ne 9, 3) := by decide +kernel
theorem dX7_judge_7 : decode cX7_judge 7 = .ok (.aload_n 0, 1) := by decide +kernel
theorem dX7_judge_8 : decode cX7_judge 8 = .ok (.iconst 1, 1) := by decide +kernel
theorem dX7_judge_9 : decode cX7_judge 9 = .ok (.invokevirtual 130, 3) := by decide +kernel
theorem dX7_judge_12 : decode cX7_judge 12 = .ok (.ireturn, 1) := by decide +kernel
theorem dX7_judge_13 : decode cX7_judge 13 = .ok (.aload_n 0, 1) := by decide +kernel
theorem dX7_judge_14 : decode cX7_judge 14 = .ok (.getfield 40, 3) := by decide +kernel
theorem dX7_judge_17 : decode cX7_judge 17 = .ok (.iload_n 1, 1) := by decide +kernel
theorem dX7_judge_18 : decode cX7_judge 18 = .ok (.iaload, 1) := by decide +kernel
theorem dX7_judge_19 : decode cX7_judge 19 = .ok (.ifCond .ne 9, 3) := by decide +kernel
theorem dX7_judge_22 : decode cX7_judge 22 = .ok (.aload_n 0, 1) := by decide +kernel
theorem dX7_judge_23 : decode cX7_judge 23 = .ok (.iconst 2, 1) := by decide +kernel
theorem dX7_judge_24 : decode cX7_judge 24 = .ok (.invokevirtual 130, 3) := by decide +kernel
theorem dX7_judge_27 : decode cX7_judge 27 = .ok (.ireturn, 1) := by decide +kernel
theorem dX7_judge_28 : decode cX7_judge 28 = .ok (.iconst 0, 1) := by decide +kernel
theorem dX7_judge_29 : decode cX7_judge 29 = .ok (.istore_n 2, 1) := by decide +kernel
theorem dX7_judge_30 : decode cX7_judge 30 = .ok (.iload_n 2, 1) := by decide +kernel
theorem dX7_judge_31 : decode cX7_judge 31 = .ok (.aload_n 0, 1) := by decide +kernel
theorem dX7_judge_32 : decode cX7_judge 32 = .ok (.getfield 43, 3) := by decide +kernel
theorem dX7_judge_35 : decode cX7_judge 35 = .ok (.iload_n 1, 1) := by decide +kernel
theorem dX7_judge_36 : decode cX7_judge 36 = .ok (.iaload, 1) := by decide +kernel
theorem dX7_judge_37 : decode cX7_judge 37 = .ok (.if_icmp .ge 39, 3) := by decide +kernel
theorem dX7_judge_40 : decode cX7_judge 40 = .ok (.iload_n 2, 1) := by decide +kernel
theorem dX7_judge_41 : decode cX7_judge 41 = .ok (.aload_n 0, 1) := by decide +kernel
theorem dX7_judge_42 : decode cX7_judge 42 = .ok (.getfield 7, 3) := by decide +kernel
theorem dX7_judge_45 : decode cX7_judge 45 = .ok (.iconst 0, 1) := by decide +kernel
theorem dX7_judge_46 : decode cX7_judge 46 = .ok (.iaload, 1) := by decide +kernel
theorem dX7_judge_47 : decode cX7_judge 47 = .ok (.if_icmp .ge 29, 3) := by decide +kernel
theorem dX7_judge_50 : decode cX7_judge 50 = .ok (.aload_n 0, 1) := by decide +kernel
theorem dX7_judge_51 : decode cX7_judge 51 = .ok (.getfield 46, 3) := by decide +kernel
theorem dX7_judge_54 : decode cX7_judge 54 = .ok (.bipush 40, 2) := by decide +kernel
theorem dX7_judge_56 : decode cX7_judge 56 = .ok (.iload_n 1, 1) := by decide +kernel
theorem dX7_judge_57 : decode cX7_judge 57 = .ok (.imul, 1) := by decide +kernel
theorem dX7_judge_58 : decode cX7_judge 58 = .ok (.iload_n 2, 1) := by decide +kernel
theorem dX7_judge_59 : decode cX7_judge 59 = .ok (.iadd, 1) := by decide +kernel
theorem dX7_judge_60 : decode cX7_judge 60 = .ok (.iaload, 1) := by decide +kernel
theorem dX7_judge_61 : decode cX7_judge 61 = .ok (.aload_n 0, 1) := by decide +kernel
theorem dX7_judge_62 : decode cX7_judge 62 = .ok (.iload_n 2, 1) := by decide +kernel
theorem dX7_judge_63 : decode cX7_judge 63 = .ok (.iconst 4, 1) := by decide +kernel
theorem dX7_judge_64 : decode cX7_judge 64 = .ok (.invokevirtual 150, 3) := by decide +kernel
theorem dX7_judge_67 : decode cX7_judge 67 = .ok (.if_icmp .ne 9, 3) := by decide +kernel
theorem dX7_judge_70 : decode cX7_judge 70 = .ok (.iinc 2 1, 3) := by decide +kernel
theorem dX7_judge_73 : decode cX7_judge 73 = .ok (.goto (-43), 3) := by decide +kernel
theorem dX7_judge_76 : decode cX7_judge 76 = .ok (.iload_n 2, 1) := by decide +kernel
theorem dX7_judge_77 : decode cX7_judge 77 = .ok (.aload_n 0, 1) := by decide +kernel
theorem dX7_judge_78 : decode cX7_judge 78 = .ok (.getfield 43, 3) := by decide +kernel
theorem dX7_judge_81 : decode cX7_judge 81 = .ok (.iload_n 1, 1) := by decide +kernel
theorem dX7_judge_82 : decode cX7_judge 82 = .ok (.iaload, 1) := by decide +kernel
theorem dX7_judge_83 : decode cX7_judge 83 = .ok (.if_icmp .ne 17, 3) := by decide +kernel
theorem dX7_judge_86 : decode cX7_judge 86 = .ok (.iload_n 2, 1) := by decide +kernel
theorem dX7_judge_87 : decode cX7_judge 87 = .ok (.aload_n 0, 1) := by decide +kernel
theorem dX7_judge_88 : decode cX7_judge 88 = .ok (.getfield 7, 3) := by decide +kernel
theorem dX7_judge_91 : decode cX7_judge 91 = .ok (.iconst 0, 1) := by decide +kernel
theorem dX7_judge_92 : decode cX7_judge 92 = .ok (.iaload, 1) := by decide +kernel
theorem dX7_judge_93 : decode cX7_judge 93 = .ok (.if_icmp .ne 7, 3) := by decide +kernel
theorem dX7_judge_96 : decode cX7_judge 96 = .ok (.iconst (-1), 1) := by decide +kernel
theorem dX7_judge_97 : decode cX7_judge 97 = .ok (.goto 4, 3) := by decide +kernel
theorem dX7_judge_100 : decode cX7_judge 100 = .ok (.iload_n 2, 1) := by decide +kernel
theorem dX7_judge_101 : decode cX7_judge 101 = .ok (.ireturn, 1) := by decide +kernel
theorem dX7_image_0 : decode cX7_image 0 = .ok (.iconst 0, 1) := by decide +kernel
theorem dX7_image_1 : decode cX7_image 1 = .ok (.istore_n 1, 1) := by decide +kernel
theorem dX7_image_2 : decode cX7_image 2 = .ok (.iload_n 1, 1) := by decide +kernel
theorem dX7_image_3 : decode cX7_image 3 = .ok (.sipush 248, 3) := by decide +kernel
theorem dX7_image_6 : decode cX7_image 6 = .ok (.if_icmp .ge 21, 3) := by decide +kernel
theorem dX7_image_9 : decode cX7_image 9 = .ok (.aload_n 0, 1) := by decide +kernel
theorem dX7_image_10 : decode cX7_image 10 = .ok (.getfield 13, 3) := by decide +kernel
theorem dX7_image_13 : decode cX7_image 13 = .ok (.iload_n 1, 1) := by decide +kernel
theorem dX7_image_14 : decode cX7_image 14 = .ok (.aload_n 0, 1) := by decide +kernel
theorem dX7_image_15 : decode cX7_image 15 = .ok (.getfield 7, 3) := by decide +kernel
theorem dX7_image_18 : decode cX7_image 18 = .ok (.iload_n 1, 1) := by decide +kernel
theorem dX7_image_19 : decode cX7_image 19 = .ok (.iaload, 1) := by decide +kernel
theorem dX7_image_20 : decode cX7_image 20 = .ok (.iastore, 1) := by decide +kernel
theorem dX7_image_21 : decode cX7_image 21 = .ok (.iinc 1 1, 3) := by decide +kernel
theorem dX7_image_24 : decode cX7_image 24 = .ok (.goto (-22), 3) := by decide +kernel
theorem dX7_image_27 : decode cX7_image 27 = .ok (.aload_n 0, 1) := by decide +kernel
theorem dX7_image_28 : decode cX7_image 28 = .ok (.dup, 1) := by decide +kernel
theorem dX7_image_29 : decode cX7_image 29 = .ok (.getfield 297, 3) := by decide +kernel
theorem dX7_image_32 : decode cX7_image 32 = .ok (.iconst 1, 1) := by decide +kernel
theorem dX7_image_33 : decode cX7_image 33 = .ok (.iadd, 1) := by decide +kernel
theorem dX7_image_34 : decode cX7_image 34 = .ok (.putfield 297, 3) := by decide +kernel
theorem dX7_image_37 : decode cX7_image 37 = .ok (.aload_n 0, 1) := by decide +kernel
theorem dX7_image_38 : decode cX7_image 38 = .ok (.getfield 297, 3) := by decide +kernel
theorem dX7_image_41 : decode cX7_image 41 = .ok (.ireturn, 1) := by decide +kernel
theorem dX7_restore_0 : decode cX7_restore 0 = .ok (.aload_n 0, 1) := by decide +kernel
theorem dX7_restore_1 : decode cX7_restore 1 = .ok (.getfield 297, 3) := by decide +kernel
theorem dX7_restore_4 : decode cX7_restore 4 = .ok (.ifCond .ne 9, 3) := by decide +kernel
theorem dX7_restore_7 : decode cX7_restore 7 = .ok (.aload_n 0, 1) := by decide +kernel
theorem dX7_restore_8 : decode cX7_restore 8 = .ok (.iconst 2, 1) := by decide +kernel
theorem dX7_restore_9 : decode cX7_restore 9 = .ok (.invokevirtual 130, 3) := by decide +kernel
theorem dX7_restore_12 : decode cX7_restore 12 = .ok (.ireturn, 1) := by decide +kernel
theorem dX7_restore_13 : decode cX7_restore 13 = .ok (.iconst 0, 1) := by decide +kernel
theorem dX7_restore_14 : decode cX7_restore 14 = .ok (.istore_n 1, 1) := by decide +kernel
theorem dX7_restore_15 : decode cX7_restore 15 = .ok (.iload_n 1, 1) := by decide +kernel
theorem dX7_restore_16 : decode cX7_restore 16 = .ok (.sipush 248, 3) := by decide +kernel
theorem dX7_restore_19 : decode cX7_restore 19 = .ok (.if_icmp .ge 21, 3) := by decide +kernel
theorem dX7_restore_22 : decode cX7_restore 22 = .ok (.aload_n 0, 1) := by decide +kernel
theorem dX7_restore_23 : decode cX7_restore 23 = .ok (.getfield 7, 3) := by decide +kernel
theorem dX7_restore_26 : decode cX7_restore 26 = .ok (.iload_n 1, 1) := by decide +kernel
theorem dX7_restore_27 : decode cX7_restore 27 = .ok (.aload_n 0, 1) := by decide +kernel
theorem dX7_restore_28 : decode cX7_restore 28 = .ok (.getfield 13, 3) := by decide +kernel
theorem dX7_restore_31 : decode cX7_restore 31 = .ok (.iload_n 1, 1) := by decide +kernel
theorem dX7_restore_32 : decode cX7_restore 32 = .ok (.iaload, 1) := by decide +kernel
theorem dX7_restore_33 : decode cX7_restore 33 = .ok (.iastore, 1) := by decide +kernel
theorem dX7_restore_34 : decode cX7_restore 34 = .ok (.iinc 1 1, 3) := by decide +kernel
theorem dX7_restore_37 : decode cX7_restore 37 = .ok (.goto (-22), 3) := by decide +kernel
theorem dX7_restore_40 : decode cX7_restore 40 = .ok (.aload_n 0, 1) := by decide +kernel
theorem dX7_restore_41 : decode cX7_restore 41 = .ok (.getfield 7, 3) := by decide +kernel
theorem dX7_restore_44 : decode cX7_restore 44 = .ok (.bipush 6, 2) := by decide +kernel
theorem dX7_restore_46 : decode cX7_restore 46 = .ok (.iaload, 1) := by decide +kernel
theorem dX7_restore_47 : decode cX7_restore 47 = .ok (.ireturn, 1) := by decide +kernel
theorem dX7_tell_0 : decode cX7_tell 0 = .ok (.aload_n 0, 1) := by decide +kernel
theorem dX7_tell_1 : decode cX7_tell 1 = .ok (.getfield 7, 3) := by decide +kernel
theorem dX7_tell_4 : decode cX7_tell 4 = .ok (.bipush 9, 2) := by decide +kernel
theorem dX7_tell_6 : decode cX7_tell 6 = .ok (.iaload, 1) := by decide +kernel
theorem dX7_tell_7 : decode cX7_tell 7 = .ok (.bipush 20, 2) := by decide +kernel
theorem dX7_tell_9 : decode cX7_tell 9 = .ok (.if_icmp .ne 9, 3) := by decide +kernel
theorem dX7_tell_12 : decode cX7_tell 12 = .ok (.aload_n 0, 1) := by decide +kernel
theorem dX7_tell_13 : decode cX7_tell 13 = .ok (.iconst 4, 1) := by decide +kernel
theorem dX7_tell_14 : decode cX7_tell 14 = .ok (.invokevirtual 130, 3) := by decide +kernel
theorem dX7_tell_17 : decode cX7_tell 17 = .ok (.ireturn, 1) := by decide +kernel
theorem dX7_tell_18 : decode cX7_tell 18 = .ok (.aload_n 0, 1) := by decide +kernel
theorem dX7_tell_19 : decode cX7_tell 19 = .ok (.getfield 7, 3) := by decide +kernel
theorem dX7_tell_22 : decode cX7_tell 22 = .ok (.bipush 78, 2) := by decide +kernel
theorem dX7_tell_24 : decode cX7_tell 24 = .ok (.aload_n 0, 1) := by decide +kernel
theorem dX7_tell_25 : decode cX7_tell 25 = .ok (.getfield 7, 3) := by decide +kernel
theorem dX7_tell_28 : decode cX7_tell 28 = .ok (.bipush 9, 2) := by decide +kernel
theorem dX7_tell_30 : decode cX7_tell 30 = .ok (.iaload, 1) := by decide +kernel
theorem dX7_tell_31 : decode cX7_tell 31 = .ok (.iadd, 1) := by decide +kernel
theorem dX7_tell_32 : decode cX7_tell 32 = .ok (.iload_n 1, 1) := by decide +kernel
theorem dX7_tell_33 : decode cX7_tell 33 = .ok (.iastore, 1) := by decide +kernel
theorem dX7_tell_34 : decode cX7_tell 34 = .ok (.aload_n 0, 1) := by decide +kernel
theorem dX7_tell_35 : decode cX7_tell 35 = .ok (.getfield 7, 3) := by decide +kernel
theorem dX7_tell_38 : decode cX7_tell 38 = .ok (.bipush 9, 2) := by decide +kernel
theorem dX7_tell_40 : decode cX7_tell 40 = .ok (.dup2, 1) := by decide +kernel
theorem dX7_tell_41 : decode cX7_tell 41 = .ok (.iaload, 1) := by decide +kernel
theorem dX7_tell_42 : decode cX7_tell 42 = .ok (.iconst 1, 1) := by decide +kernel
theorem dX7_tell_43 : decode cX7_tell 43 = .ok (.iadd, 1) := by decide +kernel
theorem dX7_tell_44 : decode cX7_tell 44 = .ok (.iastore, 1) := by decide +kernel
theorem dX7_tell_45 : decode cX7_tell 45 = .ok (.aload_n 0, 1) := by decide +kernel
theorem dX7_tell_46 : decode cX7_tell 46 = .ok (.getfield 7, 3) := by decide +kernel
theorem dX7_tell_49 : decode cX7_tell 49 = .ok (.bipush 9, 2) := by decide +kernel
theorem dX7_tell_51 : decode cX7_tell 51 = .ok (.iaload, 1) := by decide +kernel
theorem dX7_tell_52 : decode cX7_tell 52 = .ok (.ireturn, 1) := by decide +kernel
theorem dX7_check_0 : decode cX7_check 0 = .ok (.aload_n 0, 1) := by decide +kernel
theorem dX7_check_1 : decode cX7_check 1 = .ok (.getfield 7, 3) := by decide +kernel
theorem dX7_check_4 : decode cX7_check 4 = .ok (.bipush 9, 2) := by decide +kernel
theorem dX7_check_6 : decode cX7_check 6 = .ok (.iaload, 1) := by decide +kernel
theorem dX7_check_7 : decode cX7_check 7 = .ok (.istore_n 1, 1) := by decide +kernel
theorem dX7_check_8 : decode cX7_check 8 = .ok (.aload_n 0, 1) := by decide +kernel
theorem dX7_check_9 : decode cX7_check 9 = .ok (.getfield 7, 3) := by decide +kernel
theorem dX7_check_12 : decode cX7_check 12 = .ok (.bipush 9, 2) := by decide +kernel
theorem dX7_check_14 : decode cX7_check 14 = .ok (.iconst 0, 1) := by decide +kernel
theorem dX7_check_15 : decode cX7_check 15 = .ok (.iastore, 1) := by decide +kernel
theorem dX7_check_16 : decode cX7_check 16 = .ok (.aload_n 0, 1) := by decide +kernel
theorem dX7_check_17 : decode cX7_check 17 = .ok (.invokevirtual 237, 3) := by decide +kernel
theorem dX7_check_20 : decode cX7_check 20 = .ok (.iconst 0, 1) := by decide +kernel
theorem dX7_check_21 : decode cX7_check 21 = .ok (.istore_n 2, 1) := by decide +kernel
theorem dX7_check_22 : decode cX7_check 22 = .ok (.iconst 0, 1) := by decide +kernel
theorem dX7_check_23 : decode cX7_check 23 = .ok (.istore_n 3, 1) := by decide +kernel
theorem dX7_check_24 : decode cX7_check 24 = .ok (.iload_n 3, 1) := by decide +kernel
theorem dX7_check_25 : decode cX7_check 25 = .ok (.iload_n 1, 1) := by decide +kernel
theorem dX7_check_26 : decode cX7_check 26 = .ok (.if_icmp .ge 41, 3) := by decide +kernel
theorem dX7_check_29 : decode cX7_check 29 = .ok (.iload_n 2, 1) := by decide +kernel
theorem dX7_check_30 : decode cX7_check 30 = .ok (.ifCond .ne 37, 3) := by decide +kernel
theorem dX7_check_33 : decode cX7_check 33 = .ok (.aload_n 0, 1) := by decide +kernel
theorem dX7_check_34 : decode cX7_check 34 = .ok (.invokevirtual 220, 3) := by decide +kernel
theorem dX7_check_37 : decode cX7_check 37 = .ok (.aload_n 0, 1) := by decide +kernel
theorem dX7_check_38 : decode cX7_check 38 = .ok (.getfield 7, 3) := by decide +kernel
theorem dX7_check_41 : decode cX7_check 41 = .ok (.bipush 78, 2) := by decide +kernel
theorem dX7_check_43 : decode cX7_check 43 = .ok (.iload_n 3, 1) := by decide +kernel
theorem dX7_check_44 : decode cX7_check 44 = .ok (.iadd, 1) := by decide +kernel
theorem dX7_check_45 : decode cX7_check 45 = .ok (.iaload, 1) := by decide +kernel
theorem dX7_check_46 : decode cX7_check 46 = .ok (.aload_n 0, 1) := by decide +kernel
theorem dX7_check_47 : decode cX7_check 47 = .ok (.invokevirtual 228, 3) := by decide +kernel
theorem dX7_check_50 : decode cX7_check 50 = .ok (.if_icmp .ne 7, 3) := by decide +kernel
theorem dX7_check_53 : decode cX7_check 53 = .ok (.iconst 0, 1) := by decide +kernel
theorem dX7_check_54 : decode cX7_check 54 = .ok (.goto 6, 3) := by decide +kernel
theorem dX7_check_57 : decode cX7_check 57 = .ok (.iconst 1, 1) := by decide +kernel
theorem dX7_check_58 : decode cX7_check 58 = .ok (.iload_n 3, 1) := by decide +kernel
theorem dX7_check_59 : decode cX7_check 59 = .ok (.iadd, 1) := by decide +kernel
theorem dX7_check_60 : decode cX7_check 60 = .ok (.istore_n 2, 1) := by decide +kernel
theorem dX7_check_61 : decode cX7_check 61 = .ok (.iinc 3 1, 3) := by decide +kernel
theorem dX7_check_64 : decode cX7_check 64 = .ok (.goto (-40), 3) := by decide +kernel
theorem dX7_check_67 : decode cX7_check 67 = .ok (.aload_n 0, 1) := by decide +kernel
theorem dX7_check_68 : decode cX7_check 68 = .ok (.invokevirtual 243, 3) := by decide +kernel
theorem dX7_check_71 : decode cX7_check 71 = .ok (.iload_n 2, 1) := by decide +kernel
theorem dX7_check_72 : decode cX7_check 72 = .ok (.ireturn, 1) := by decide +kernel
theorem dX7_count_0 : decode cX7_count 0 = .ok (.iconst 0, 1) := by decide +kernel
theorem dX7_count_1 : decode cX7_count 1 = .ok (.istore_n 2, 1) := by decide +kernel
theorem dX7_count_2 : decode cX7_count 2 = .ok (.iload_n 1, 1) := by decide +kernel
theorem dX7_count_3 : decode cX7_count 3 = .ok (.tableswitch 189 0 13 #[69, 76, 83, 91, 96, 127, 134, 141, 148, 155, 160, 168, 176, 181], 69) := by decide +kernel
theorem dX7_count_72 : decode cX7_count 72 = .ok (.aload_n 0, 1) := by decide +kernel
theorem dX7_count_73 : decode cX7_count 73 = .ok (.getfield 7, 3) := by decide +kernel
theorem dX7_count_76 : decode cX7_count 76 = .ok (.iconst 0, 1) := by decide +kernel
theorem dX7_count_77 : decode cX7_count 77 = .ok (.iaload, 1) := by decide +kernel
theorem dX7_count_78 : decode cX7_count 78 = .ok (.ireturn, 1) := by decide +kernel
theorem dX7_count_79 : decode cX7_count 79 = .ok (.aload_n 0, 1) := by decide +kernel
theorem dX7_count_80 : decode cX7_count 80 = .ok (.getfield 7, 3) := by decide +kernel
theorem dX7_count_83 : decode cX7_count 83 = .ok (.iconst 1, 1) := by decide +kernel
theorem dX7_count_84 : decode cX7_count 84 = .ok (.iaload, 1) := by decide +kernel
theorem dX7_count_85 : decode cX7_count 85 = .ok (.ireturn, 1) := by decide +kernel
theorem dX7_count_86 : decode cX7_count 86 = .ok (.aload_n 0, 1) := by decide +kernel
theorem dX7_count_87 : decode cX7_count 87 = .ok (.getfield 7, 3) := by decide +kernel
theorem dX7_count_90 : decode cX7_count 90 = .ok (.bipush 6, 2) := by decide +kernel
theorem dX7_count_92 : decode cX7_count 92 = .ok (.iaload, 1) := by decide +kernel
theorem dX7_count_93 : decode cX7_count 93 = .ok (.ireturn, 1) := by decide +kernel
theorem dX7_count_94 : decode cX7_count 94 = .ok (.aload_n 0, 1) := by decide +kernel
theorem dX7_count_95 : decode cX7_count 95 = .ok (.invokevirtual 228, 3) := by decide +kernel
theorem dX7_count_98 : decode cX7_count 98 = .ok (.ireturn, 1) := by decide +kernel
theorem dX7_count_99 : decode cX7_count 99 = .ok (.iconst 0, 1) := by decide +kernel
theorem dX7_count_100 : decode cX7_count 100 = .ok (.istore_n 3, 1) := by decide +kernel
theorem dX7_count_101 : decode cX7_count 101 = .ok (.iload_n 3, 1) := by decide +kernel
theorem dX7_count_102 : decode cX7_count 102 = .ok (.aload_n 0, 1) := by decide +kernel
theorem dX7_count_103 : decode cX7_count 103 = .ok (.getfield 7, 3) := by decide +kernel
theorem dX7_count_106 : decode cX7_count 106 = .ok (.iconst 1, 1) := by decide +kernel
theorem dX7_count_107 : decode cX7_count 107 = .ok (.iaload, 1) := by decide +kernel
theorem dX7_count_108 : decode cX7_count 108 = .ok (.if_icmp .ge 20, 3) := by decide +kernel
theorem dX7_count_111 : decode cX7_count 111 = .ok (.iload_n 2, 1) := by decide +kernel
theorem dX7_count_112 : decode cX7_count 112 = .ok (.aload_n 0, 1) := by decide +kernel
theorem dX7_count_113 : decode cX7_count 113 = .ok (.iload_n 3, 1) := by decide +kernel
theorem dX7_count_114 : decode cX7_count 114 = .ok (.iconst 2, 1) := by decide +kernel
theorem dX7_count_115 : decode cX7_count 115 = .ok (.invokevirtual 172, 3) := by decide +kernel
theorem dX7_count_118 : decode cX7_count 118 = .ok (.iload_n 3, 1) := by decide +kernel
theorem dX7_count_119 : decode cX7_count 119 = .ok (.ishl, 1) := by decide +kernel
theorem dX7_count_120 : decode cX7_count 120 = .ok (.ior, 1) := by decide +kernel
theorem dX7_count_121 : decode cX7_count 121 = .ok (.istore_n 2, 1) := by decide +kernel
theorem dX7_count_122 : decode cX7_count 122 = .ok (.iinc 3 1, 3) := by decide +kernel
theorem dX7_count_125 : decode cX7_count 125 = .ok (.goto (-24), 3) := by decide +kernel
theorem dX7_count_128 : decode cX7_count 128 = .ok (.iload_n 2, 1) := by decide +kernel
theorem dX7_count_129 : decode cX7_count 129 = .ok (.ireturn, 1) := by decide +kernel
theorem dX7_count_130 : decode cX7_count 130 = .ok (.aload_n 0, 1) := by decide +kernel
theorem dX7_count_131 : decode cX7_count 131 = .ok (.getfield 7, 3) := by decide +kernel
theorem dX7_count_134 : decode cX7_count 134 = .ok (.iconst 2, 1) := by decide +kernel
theorem dX7_count_135 : decode cX7_count 135 = .ok (.iaload, 1) := by decide +kernel
theorem dX7_count_136 : decode cX7_count 136 = .ok (.ireturn, 1) := by decide +kernel
theorem dX7_count_137 : decode cX7_count 137 = .ok (.aload_n 0, 1) := by decide +kernel
theorem dX7_count_138 : decode cX7_count 138 = .ok (.getfield 7, 3) := by decide +kernel
theorem dX7_count_141 : decode cX7_count 141 = .ok (.iconst 3, 1) := by decide +kernel
theorem dX7_count_142 : decode cX7_count 142 = .ok (.iaload, 1) := by decide +kernel
theorem dX7_count_143 : decode cX7_count 143 = .ok (.ireturn, 1) := by decide +kernel
theorem dX7_count_144 : decode cX7_count 144 = .ok (.aload_n 0, 1) := by decide +kernel
theorem dX7_count_145 : decode cX7_count 145 = .ok (.getfield 7, 3) := by decide +kernel
theorem dX7_count_148 : decode cX7_count 148 = .ok (.iconst 4, 1) := by decide +kernel
theorem dX7_count_149 : decode cX7_count 149 = .ok (.iaload, 1) := by decide +kernel
theorem dX7_count_150 : decode cX7_count 150 = .ok (.ireturn, 1) := by decide +kernel
theorem dX7_count_151 : decode cX7_count 151 = .ok (.aload_n 0, 1) := by decide +kernel
theorem dX7_count_152 : decode cX7_count 152 = .ok (.getfield 7, 3) := by decide +kernel
theorem dX7_count_155 : decode cX7_count 155 = .ok (.iconst 5, 1) := by decide +kernel
theorem dX7_count_156 : decode cX7_count 156 = .ok (.iaload, 1) := by decide +kernel
theorem dX7_count_157 : decode cX7_count 157 = .ok (.ireturn, 1) := by decide +kernel
theorem dX7_count_158 : decode cX7_count 158 = .ok (.aload_n 0, 1) := by decide +kernel
theorem dX7_count_159 : decode cX7_count 159 = .ok (.invokevirtual 194, 3) := by decide +kernel
theorem dX7_count_162 : decode cX7_count 162 = .ok (.ireturn, 1) := by decide +kernel
theorem dX7_count_163 : decode cX7_count 163 = .ok (.aload_n 0, 1) := by decide +kernel
theorem dX7_count_164 : decode cX7_count 164 = .ok (.getfield 7, 3) := by decide +kernel
theorem dX7_count_167 : decode cX7_count 167 = .ok (.bipush 8, 2) := by decide +kernel
theorem dX7_count_169 : decode cX7_count 169 = .ok (.iaload, 1) := by decide +kernel
theorem dX7_count_170 : decode cX7_count 170 = .ok (.ireturn, 1) := by decide +kernel
theorem dX7_count_171 : decode cX7_count 171 = .ok (.aload_n 0, 1) := by decide +kernel
theorem dX7_count_172 : decode cX7_count 172 = .ok (.getfield 7, 3) := by decide +kernel
theorem dX7_count_175 : decode cX7_count 175 = .ok (.bipush 9, 2) := by decide +kernel
theorem dX7_count_177 : decode cX7_count 177 = .ok (.iaload, 1) := by decide +kernel
theorem dX7_count_178 : decode cX7_count 178 = .ok (.ireturn, 1) := by decide +kernel
theorem dX7_count_179 : decode cX7_count 179 = .ok (.aload_n 0, 1) := by decide +kernel
theorem dX7_count_180 : decode cX7_count 180 = .ok (.getfield 276, 3) := by decide +kernel
theorem dX7_count_183 : decode cX7_count 183 = .ok (.ireturn, 1) := by decide +kernel
theorem dX7_count_184 : decode cX7_count 184 = .ok (.aload_n 0, 1) := by decide +kernel
theorem dX7_count_185 : decode cX7_count 185 = .ok (.getfield 7, 3) := by decide +kernel
theorem dX7_count_188 : decode cX7_count 188 = .ok (.bipush 7, 2) := by decide +kernel
theorem dX7_count_190 : decode cX7_count 190 = .ok (.iaload, 1) := by decide +kernel
theorem dX7_count_191 : decode cX7_count 191 = .ok (.ireturn, 1) := by decide +kernel
theorem dX7_count_192 : decode cX7_count 192 = .ok (.aload_n 0, 1) := by decide +kernel
theorem dX7_count_193 : decode cX7_count 193 = .ok (.iconst 1, 1) := by decide +kernel
theorem dX7_count_194 : decode cX7_count 194 = .ok (.invokevirtual 130, 3) := by decide +kernel
theorem dX7_count_197 : decode cX7_count 197 = .ok (.ireturn, 1) := by decide +kernel
theorem dX7_told_0 : decode cX7_told 0 = .ok (.iload_n 1, 1) := by decide +kernel
theorem dX7_told_1 : decode cX7_told 1 = .ok (.i2l, 1) := by decide +kernel
theorem dX7_told_2 : decode cX7_told 2 = .ok (.lconst 1, 1) := by decide +kernel
theorem dX7_told_3 : decode cX7_told 3 = .ok (.ldc2_w 212, 3) := by decide +kernel
theorem dX7_told_6 : decode cX7_told 6 = .ok (.invokestatic 53, 3) := by decide +kernel
theorem dX7_told_9 : decode cX7_told 9 = .ok (.ifCond .eq 12, 3) := by decide +kernel
theorem dX7_told_12 : decode cX7_told 12 = .ok (.aload_n 0, 1) := by decide +kernel
theorem dX7_told_13 : decode cX7_told 13 = .ok (.getfield 16, 3) := by decide +kernel
theorem dX7_told_16 : decode cX7_told 16 = .ok (.iload_n 1, 1) := by decide +kernel
theorem dX7_told_17 : decode cX7_told 17 = .ok (.iaload, 1) := by decide +kernel
theorem dX7_told_18 : decode cX7_told 18 = .ok (.goto 8, 3) := by decide +kernel
theorem dX7_told_21 : decode cX7_told 21 = .ok (.aload_n 0, 1) := by decide +kernel
theorem dX7_told_22 : decode cX7_told 22 = .ok (.iconst 1, 1) := by decide +kernel
theorem dX7_told_23 : decode cX7_told 23 = .ok (.invokevirtual 130, 3) := by decide +kernel
theorem dX7_told_26 : decode cX7_told 26 = .ok (.ireturn, 1) := by decide +kernel
