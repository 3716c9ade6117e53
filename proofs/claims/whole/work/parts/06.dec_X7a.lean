theorem dX7_init_0 : decode cX7_init 0 = .ok (.aload_n 0, 1) := by decide +kernel
theorem dX7_init_1 : decode cX7_init 1 = .ok (.invokespecial 1, 3) := by decide +kernel
theorem dX7_init_4 : decode cX7_init 4 = .ok (.aload_n 0, 1) := by decide +kernel
theorem dX7_init_5 : decode cX7_init 5 = .ok (.sipush 248, 3) := by decide +kernel
theorem dX7_init_8 : decode cX7_init 8 = .ok (.newarray .int, 2) := by decide +kernel
theorem dX7_init_10 : decode cX7_init 10 = .ok (.putfield 7, 3) := by decide +kernel
theorem dX7_init_13 : decode cX7_init 13 = .ok (.aload_n 0, 1) := by decide +kernel
theorem dX7_init_14 : decode cX7_init 14 = .ok (.sipush 248, 3) := by decide +kernel
theorem dX7_init_17 : decode cX7_init 17 = .ok (.newarray .int, 2) := by decide +kernel
theorem dX7_init_19 : decode cX7_init 19 = .ok (.putfield 13, 3) := by decide +kernel
theorem dX7_init_22 : decode cX7_init 22 = .ok (.aload_n 0, 1) := by decide +kernel
theorem dX7_init_23 : decode cX7_init 23 = .ok (.bipush 6, 2) := by decide +kernel
theorem dX7_init_25 : decode cX7_init 25 = .ok (.newarray .int, 2) := by decide +kernel
theorem dX7_init_27 : decode cX7_init 27 = .ok (.putfield 16, 3) := by decide +kernel
theorem dX7_init_30 : decode cX7_init 30 = .ok (.aload_n 0, 1) := by decide +kernel
theorem dX7_init_31 : decode cX7_init 31 = .ok (.bipush 76, 2) := by decide +kernel
theorem dX7_init_33 : decode cX7_init 33 = .ok (.newarray .int, 2) := by decide +kernel
theorem dX7_init_35 : decode cX7_init 35 = .ok (.putfield 19, 3) := by decide +kernel
theorem dX7_init_38 : decode cX7_init 38 = .ok (.aload_n 0, 1) := by decide +kernel
theorem dX7_init_39 : decode cX7_init 39 = .ok (.iconst 3, 1) := by decide +kernel
theorem dX7_init_40 : decode cX7_init 40 = .ok (.newarray .int, 2) := by decide +kernel
theorem dX7_init_42 : decode cX7_init 42 = .ok (.putfield 22, 3) := by decide +kernel
theorem dX7_init_45 : decode cX7_init 45 = .ok (.aload_n 0, 1) := by decide +kernel
theorem dX7_init_46 : decode cX7_init 46 = .ok (.bipush 60, 2) := by decide +kernel
theorem dX7_init_48 : decode cX7_init 48 = .ok (.newarray .int, 2) := by decide +kernel
theorem dX7_init_50 : decode cX7_init 50 = .ok (.putfield 25, 3) := by decide +kernel
theorem dX7_init_53 : decode cX7_init 53 = .ok (.aload_n 0, 1) := by decide +kernel
theorem dX7_init_54 : decode cX7_init 54 = .ok (.bipush 60, 2) := by decide +kernel
theorem dX7_init_56 : decode cX7_init 56 = .ok (.newarray .int, 2) := by decide +kernel
theorem dX7_init_58 : decode cX7_init 58 = .ok (.putfield 28, 3) := by decide +kernel
theorem dX7_init_61 : decode cX7_init 61 = .ok (.aload_n 0, 1) := by decide +kernel
theorem dX7_init_62 : decode cX7_init 62 = .ok (.bipush 60, 2) := by decide +kernel
theorem dX7_init_64 : decode cX7_init 64 = .ok (.newarray .int, 2) := by decide +kernel
theorem dX7_init_66 : decode cX7_init 66 = .ok (.putfield 31, 3) := by decide +kernel
theorem dX7_init_69 : decode cX7_init 69 = .ok (.aload_n 0, 1) := by decide +kernel
theorem dX7_init_70 : decode cX7_init 70 = .ok (.iconst 3, 1) := by decide +kernel
theorem dX7_init_71 : decode cX7_init 71 = .ok (.newarray .int, 2) := by decide +kernel
theorem dX7_init_73 : decode cX7_init 73 = .ok (.putfield 34, 3) := by decide +kernel
theorem dX7_init_76 : decode cX7_init 76 = .ok (.aload_n 0, 1) := by decide +kernel
theorem dX7_init_77 : decode cX7_init 77 = .ok (.bipush 40, 2) := by decide +kernel
theorem dX7_init_79 : decode cX7_init 79 = .ok (.newarray .int, 2) := by decide +kernel
theorem dX7_init_81 : decode cX7_init 81 = .ok (.putfield 37, 3) := by decide +kernel
theorem dX7_init_84 : decode cX7_init 84 = .ok (.aload_n 0, 1) := by decide +kernel
theorem dX7_init_85 : decode cX7_init 85 = .ok (.iconst 4, 1) := by decide +kernel
theorem dX7_init_86 : decode cX7_init 86 = .ok (.newarray .int, 2) := by decide +kernel
theorem dX7_init_88 : decode cX7_init 88 = .ok (.putfield 40, 3) := by decide +kernel
theorem dX7_init_91 : decode cX7_init 91 = .ok (.aload_n 0, 1) := by decide +kernel
theorem dX7_init_92 : decode cX7_init 92 = .ok (.iconst 4, 1) := by decide +kernel
theorem dX7_init_93 : decode cX7_init 93 = .ok (.newarray .int, 2) := by decide +kernel
theorem dX7_init_95 : decode cX7_init 95 = .ok (.putfield 43, 3) := by decide +kernel
theorem dX7_init_98 : decode cX7_init 98 = .ok (.aload_n 0, 1) := by decide +kernel
theorem dX7_init_99 : decode cX7_init 99 = .ok (.sipush 160, 3) := by decide +kernel
theorem dX7_init_102 : decode cX7_init 102 = .ok (.newarray .int, 2) := by decide +kernel
theorem dX7_init_104 : decode cX7_init 104 = .ok (.putfield 46, 3) := by decide +kernel
theorem dX7_init_107 : decode cX7_init 107 = .ok (.aload_n 0, 1) := by decide +kernel
theorem dX7_init_108 : decode cX7_init 108 = .ok (.bipush 40, 2) := by decide +kernel
theorem dX7_init_110 : decode cX7_init 110 = .ok (.newarray .int, 2) := by decide +kernel
theorem dX7_init_112 : decode cX7_init 112 = .ok (.putfield 49, 3) := by decide +kernel
theorem dX7_init_115 : decode cX7_init 115 = .ok (.aload_n 0, 1) := by decide +kernel
theorem dX7_init_116 : decode cX7_init 116 = .ok (.getfield 7, 3) := by decide +kernel
theorem dX7_init_119 : decode cX7_init 119 = .ok (.bipush 7, 2) := by decide +kernel
theorem dX7_init_121 : decode cX7_init 121 = .ok (.iconst 1, 1) := by decide +kernel
theorem dX7_init_122 : decode cX7_init 122 = .ok (.iastore, 1) := by decide +kernel
theorem dX7_init_123 : decode cX7_init 123 = .ok (.aload_n 0, 1) := by decide +kernel
theorem dX7_init_124 : decode cX7_init 124 = .ok (.getfield 7, 3) := by decide +kernel
theorem dX7_init_127 : decode cX7_init 127 = .ok (.iconst 4, 1) := by decide +kernel
theorem dX7_init_128 : decode cX7_init 128 = .ok (.iconst 5, 1) := by decide +kernel
theorem dX7_init_129 : decode cX7_init 129 = .ok (.iastore, 1) := by decide +kernel
theorem dX7_init_130 : decode cX7_init 130 = .ok (.aload_n 0, 1) := by decide +kernel
theorem dX7_init_131 : decode cX7_init 131 = .ok (.getfield 7, 3) := by decide +kernel
theorem dX7_init_134 : decode cX7_init 134 = .ok (.iconst 5, 1) := by decide +kernel
theorem dX7_init_135 : decode cX7_init 135 = .ok (.iconst 2, 1) := by decide +kernel
theorem dX7_init_136 : decode cX7_init 136 = .ok (.iastore, 1) := by decide +kernel
theorem dX7_init_137 : decode cX7_init 137 = .ok (.return_, 1) := by decide +kernel
theorem dX7_finds_0 : decode cX7_finds 0 = .ok (.aload_n 0, 1) := by decide +kernel
theorem dX7_finds_1 : decode cX7_finds 1 = .ok (.getfield 16, 3) := by decide +kernel
theorem dX7_finds_4 : decode cX7_finds 4 = .ok (.iload_n 1, 1) := by decide +kernel
theorem dX7_finds_5 : decode cX7_finds 5 = .ok (.dup2, 1) := by decide +kernel
theorem dX7_finds_6 : decode cX7_finds 6 = .ok (.iaload, 1) := by decide +kernel
theorem dX7_finds_7 : decode cX7_finds 7 = .ok (.iconst 1, 1) := by decide +kernel
theorem dX7_finds_8 : decode cX7_finds 8 = .ok (.iadd, 1) := by decide +kernel
theorem dX7_finds_9 : decode cX7_finds 9 = .ok (.iastore, 1) := by decide +kernel
theorem dX7_finds_10 : decode cX7_finds 10 = .ok (.ldc 52, 2) := by decide +kernel
theorem dX7_finds_12 : decode cX7_finds 12 = .ok (.iload_n 1, 1) := by decide +kernel
theorem dX7_finds_13 : decode cX7_finds 13 = .ok (.isub, 1) := by decide +kernel
theorem dX7_finds_14 : decode cX7_finds 14 = .ok (.ireturn, 1) := by decide +kernel
theorem dX7_in_0 : decode cX7_in 0 = .ok (.lload_n 0, 1) := by decide +kernel
theorem dX7_in_1 : decode cX7_in 1 = .ok (.lload_n 2, 1) := by decide +kernel
theorem dX7_in_2 : decode cX7_in 2 = .ok (.lcmp, 1) := by decide +kernel
theorem dX7_in_3 : decode cX7_in 3 = .ok (.ifCond .lt 14, 3) := by decide +kernel
theorem dX7_in_6 : decode cX7_in 6 = .ok (.lload_n 0, 1) := by decide +kernel
theorem dX7_in_7 : decode cX7_in 7 = .ok (.lload 4, 2) := by decide +kernel
theorem dX7_in_9 : decode cX7_in 9 = .ok (.lcmp, 1) := by decide +kernel
theorem dX7_in_10 : decode cX7_in 10 = .ok (.ifCond .gt 7, 3) := by decide +kernel
theorem dX7_in_13 : decode cX7_in 13 = .ok (.iconst 1, 1) := by decide +kernel
theorem dX7_in_14 : decode cX7_in 14 = .ok (.goto 4, 3) := by decide +kernel
theorem dX7_in_17 : decode cX7_in 17 = .ok (.iconst 0, 1) := by decide +kernel
theorem dX7_in_18 : decode cX7_in 18 = .ok (.ireturn, 1) := by decide +kernel
theorem dX7_held_0 : decode cX7_held 0 = .ok (.iload_n 0, 1) := by decide +kernel
theorem dX7_held_1 : decode cX7_held 1 = .ok (.iload_n 1, 1) := by decide +kernel
theorem dX7_held_2 : decode cX7_held 2 = .ok (.if_icmp .ge 7, 3) := by decide +kernel
theorem dX7_held_5 : decode cX7_held 5 = .ok (.iload_n 1, 1) := by decide +kernel
theorem dX7_held_6 : decode cX7_held 6 = .ok (.goto 13, 3) := by decide +kernel
theorem dX7_held_9 : decode cX7_held 9 = .ok (.iload_n 0, 1) := by decide +kernel
theorem dX7_held_10 : decode cX7_held 10 = .ok (.iload_n 2, 1) := by decide +kernel
theorem dX7_held_11 : decode cX7_held 11 = .ok (.if_icmp .le 7, 3) := by decide +kernel
theorem dX7_held_14 : decode cX7_held 14 = .ok (.iload_n 2, 1) := by decide +kernel
theorem dX7_held_15 : decode cX7_held 15 = .ok (.goto 4, 3) := by decide +kernel
theorem dX7_held_18 : decode cX7_held 18 = .ok (.iload_n 0, 1) := by decide +kernel
theorem dX7_held_19 : decode cX7_held 19 = .ok (.ireturn, 1) := by decide +kernel
theorem dX7_isPerson_0 : decode cX7_isPerson 0 = .ok (.iload_n 1, 1) := by decide +kernel
theorem dX7_isPerson_1 : decode cX7_isPerson 1 = .ok (.i2l, 1) := by decide +kernel
theorem dX7_isPerson_2 : decode cX7_isPerson 2 = .ok (.lconst 0, 1) := by decide +kernel
theorem dX7_isPerson_3 : decode cX7_isPerson 3 = .ok (.aload_n 0, 1) := by decide +kernel
theorem dX7_isPerson_4 : decode cX7_isPerson 4 = .ok (.getfield 7, 3) := by decide +kernel
theorem dX7_isPerson_7 : decode cX7_isPerson 7 = .ok (.iconst 0, 1) := by decide +kernel
theorem dX7_isPerson_8 : decode cX7_isPerson 8 = .ok (.iaload, 1) := by decide +kernel
theorem dX7_isPerson_9 : decode cX7_isPerson 9 = .ok (.iconst 1, 1) := by decide +kernel
theorem dX7_isPerson_10 : decode cX7_isPerson 10 = .ok (.isub, 1) := by decide +kernel
theorem dX7_isPerson_11 : decode cX7_isPerson 11 = .ok (.i2l, 1) := by decide +kernel
theorem dX7_isPerson_12 : decode cX7_isPerson 12 = .ok (.invokestatic 53, 3) := by decide +kernel
theorem dX7_isPerson_15 : decode cX7_isPerson 15 = .ok (.ireturn, 1) := by decide +kernel
theorem dX7_isMotion_0 : decode cX7_isMotion 0 = .ok (.iload_n 1, 1) := by decide +kernel
theorem dX7_isMotion_1 : decode cX7_isMotion 1 = .ok (.i2l, 1) := by decide +kernel
theorem dX7_isMotion_2 : decode cX7_isMotion 2 = .ok (.lconst 0, 1) := by decide +kernel
theorem dX7_isMotion_3 : decode cX7_isMotion 3 = .ok (.aload_n 0, 1) := by decide +kernel
theorem dX7_isMotion_4 : decode cX7_isMotion 4 = .ok (.getfield 7, 3) := by decide +kernel
theorem dX7_isMotion_7 : decode cX7_isMotion 7 = .ok (.iconst 1, 1) := by decide +kernel
theorem dX7_isMotion_8 : decode cX7_isMotion 8 = .ok (.iaload, 1) := by decide +kernel
theorem dX7_isMotion_9 : decode cX7_isMotion 9 = .ok (.iconst 1, 1) := by decide +kernel
theorem dX7_isMotion_10 : decode cX7_isMotion 10 = .ok (.isub, 1) := by decide +kernel
theorem dX7_isMotion_11 : decode cX7_isMotion 11 = .ok (.i2l, 1) := by decide +kernel
theorem dX7_isMotion_12 : decode cX7_isMotion 12 = .ok (.invokestatic 53, 3) := by decide +kernel
theorem dX7_isMotion_15 : decode cX7_isMotion 15 = .ok (.ireturn, 1) := by decide +kernel
theorem dX7_of_0 : decode cX7_of 0 = .ok (.aload_n 0, 1) := by decide +kernel
theorem dX7_of_1 : decode cX7_of 1 = .ok (.getfield 7, 3) := by decide +kernel
theorem dX7_of_4 : decode cX7_of 4 = .ok (.bipush 10, 2) := by decide +kernel
theorem dX7_of_6 : decode cX7_of 6 = .ok (.bipush 6, 2) := by decide +kernel
theorem dX7_of_8 : decode cX7_of 8 = .ok (.iload_n 1, 1) := by decide +kernel
theorem dX7_of_9 : decode cX7_of 9 = .ok (.imul, 1) := by decide +kernel
theorem dX7_of_10 : decode cX7_of 10 = .ok (.iadd, 1) := by decide +kernel
theorem dX7_of_11 : decode cX7_of 11 = .ok (.iload_n 2, 1) := by decide +kernel
theorem dX7_of_12 : decode cX7_of 12 = .ok (.iadd, 1) := by decide +kernel
theorem dX7_of_13 : decode cX7_of 13 = .ok (.iaload, 1) := by decide +kernel
theorem dX7_of_14 : decode cX7_of 14 = .ok (.ireturn, 1) := by decide +kernel
theorem dX7_sets_0 : decode cX7_sets 0 = .ok (.aload_n 0, 1) := by decide +kernel
theorem dX7_sets_1 : decode cX7_sets 1 = .ok (.getfield 7, 3) := by decide +kernel
theorem dX7_sets_4 : decode cX7_sets 4 = .ok (.bipush 10, 2) := by decide +kernel
theorem dX7_sets_6 : decode cX7_sets 6 = .ok (.bipush 6, 2) := by decide +kernel
theorem dX7_sets_8 : decode cX7_sets 8 = .ok (.iload_n 1, 1) := by decide +kernel
theorem dX7_sets_9 : decode cX7_sets 9 = .ok (.imul, 1) := by decide +kernel
theorem dX7_sets_10 : decode cX7_sets 10 = .ok (.iadd, 1) := by decide +kernel
theorem dX7_sets_11 : decode cX7_sets 11 = .ok (.iload_n 2, 1) := by decide +kernel
theorem dX7_sets_12 : decode cX7_sets 12 = .ok (.iadd, 1) := by decide +kernel
theorem dX7_sets_13 : decode cX7_sets 13 = .ok (.iload_n 3, 1) := by decide +kernel
theorem dX7_sets_14 : decode cX7_sets 14 = .ok (.iastore, 1) := by decide +kernel
theorem dX7_sets_15 : decode cX7_sets 15 = .ok (.return_, 1) := by decide +kernel
theorem dX7_its_0 : decode cX7_its 0 = .ok (.aload_n 0, 1) := by decide +kernel
theorem dX7_its_1 : decode cX7_its 1 = .ok (.getfield 7, 3) := by decide +kernel
theorem dX7_its_4 : decode cX7_its 4 = .ok (.bipush 58, 2) := by decide +kernel
theorem dX7_its_6 : decode cX7_its 6 = .ok (.iconst 3, 1) := by decide +kernel
theorem dX7_its_7 : decode cX7_its 7 = .ok (.iload_n 1, 1) := by decide +kernel
theorem dX7_its_8 : decode cX7_its 8 = .ok (.imul, 1) := by decide +kernel
theorem dX7_its_9 : decode cX7_its 9 = .ok (.iadd, 1) := by decide +kernel
theorem dX7_its_10 : decode cX7_its 10 = .ok (.iload_n 2, 1) := by decide +kernel
theorem dX7_its_11 : decode cX7_its 11 = .ok (.iadd, 1) := by decide +kernel
theorem dX7_its_12 : decode cX7_its 12 = .ok (.iaload, 1) := by decide +kernel
theorem dX7_its_13 : decode cX7_its 13 = .ok (.ireturn, 1) := by decide +kernel
theorem dX7_keepAside_0 : decode cX7_keepAside 0 = .ok (.iconst 0, 1) := by decide +kernel
theorem dX7_keepAside_1 : decode cX7_keepAside 1 = .ok (.istore_n 1, 1) := by decide +kernel
theorem dX7_keepAside_2 : decode cX7_keepAside 2 = .ok (.iload_n 1, 1) := by decide +kernel
theorem dX7_keepAside_3 : decode cX7_keepAside 3 = .ok (.bipush 76, 2) := by decide +kernel
theorem dX7_keepAside_5 : decode cX7_keepAside 5 = .ok (.if_icmp .ge 21, 3) := by decide +kernel
theorem dX7_keepAside_8 : decode cX7_keepAside 8 = .ok (.aload_n 0, 1) := by decide +kernel
theorem dX7_keepAside_9 : decode cX7_keepAside 9 = .ok (.getfield 19, 3) := by decide +kernel
theorem dX7_keepAside_12 : decode cX7_keepAside 12 = .ok (.iload_n 1, 1) := by decide +kernel
theorem dX7_keepAside_13 : decode cX7_keepAside 13 = .ok (.aload_n 0, 1) := by decide +kernel
theorem dX7_keepAside_14 : decode cX7_keepAside 14 = .ok (.getfield 7, 3) := by decide +kernel
theorem dX7_keepAside_17 : decode cX7_keepAside 17 = .ok (.iload_n 1, 1) := by decide +kernel
theorem dX7_keepAside_18 : decode cX7_keepAside 18 = .ok (.iaload, 1) := by decide +kernel
theorem dX7_keepAside_19 : decode cX7_keepAside 19 = .ok (.iastore, 1) := by decide +kernel
theorem dX7_keepAside_20 : decode cX7_keepAside 20 = .ok (.iinc 1 1, 3) := by decide +kernel
theorem dX7_keepAside_23 : decode cX7_keepAside 23 = .ok (.goto (-21), 3) := by decide +kernel
theorem dX7_keepAside_26 : decode cX7_keepAside 26 = .ok (.return_, 1) := by decide +kernel
theorem dX7_putBack_0 : decode cX7_putBack 0 = .ok (.iconst 0, 1) := by decide +kernel
theorem dX7_putBack_1 : decode cX7_putBack 1 = .ok (.istore_n 1, 1) := by decide +kernel
theorem dX7_putBack_2 : decode cX7_putBack 2 = .ok (.iload_n 1, 1) := by decide +kernel
theorem dX7_putBack_3 : decode cX7_putBack 3 = .ok (.bipush 76, 2) := by decide +kernel
theorem dX7_putBack_5 : decode cX7_putBack 5 = .ok (.if_icmp .ge 21, 3) := by decide +kernel
theorem dX7_putBack_8 : decode cX7_putBack 8 = .ok (.aload_n 0, 1) := by decide +kernel
theorem dX7_putBack_9 : decode cX7_putBack 9 = .ok (.getfield 7, 3) := by decide +kernel
theorem dX7_putBack_12 : decode cX7_putBack 12 = .ok (.iload_n 1, 1) := by decide +kernel
theorem dX7_putBack_13 : decode cX7_putBack 13 = .ok (.aload_n 0, 1) := by decide +kernel
theorem dX7_putBack_14 : decode cX7_putBack 14 = .ok (.getfield 19, 3) := by decide +kernel
theorem dX7_putBack_17 : decode cX7_putBack 17 = .ok (.iload_n 1, 1) := by decide +kernel
theorem dX7_putBack_18 : decode cX7_putBack 18 = .ok (.iaload, 1) := by decide +kernel
theorem dX7_putBack_19 : decode cX7_putBack 19 = .ok (.iastore, 1) := by decide +kernel
theorem dX7_putBack_20 : decode cX7_putBack 20 = .ok (.iinc 1 1, 3) := by decide +kernel
theorem dX7_putBack_23 : decode cX7_putBack 23 = .ok (.goto (-21), 3) := by decide +kernel
theorem dX7_putBack_26 : decode cX7_putBack 26 = .ok (.return_, 1) := by decide +kernel
theorem dX7_here_0 : decode cX7_here 0 = .ok (.aload_n 0, 1) := by decide +kernel
theorem dX7_here_1 : decode cX7_here 1 = .ok (.getfield 57, 3) := by decide +kernel
theorem dX7_here_4 : decode cX7_here 4 = .ok (.aload_n 0, 1) := by decide +kernel
theorem dX7_here_5 : decode cX7_here 5 = .ok (.getfield 61, 3) := by decide +kernel
theorem dX7_here_8 : decode cX7_here 8 = .ok (.if_icmp .ge 27, 3) := by decide +kernel
theorem dX7_here_11 : decode cX7_here 11 = .ok (.aload_n 0, 1) := by decide +kernel
theorem dX7_here_12 : decode cX7_here 12 = .ok (.getfield 64, 3) := by decide +kernel
theorem dX7_here_15 : decode cX7_here 15 = .ok (.ifCond .ge 20, 3) := by decide +kernel
theorem dX7_here_18 : decode cX7_here 18 = .ok (.aload_n 0, 1) := by decide +kernel
theorem dX7_here_19 : decode cX7_here 19 = .ok (.getfield 7, 3) := by decide +kernel
theorem dX7_here_22 : decode cX7_here 22 = .ok (.aload_n 0, 1) := by decide +kernel
theorem dX7_here_23 : decode cX7_here 23 = .ok (.getfield 67, 3) := by decide +kernel
theorem dX7_here_26 : decode cX7_here 26 = .ok (.aload_n 0, 1) := by decide +kernel
theorem dX7_here_27 : decode cX7_here 27 = .ok (.getfield 57, 3) := by decide +kernel
theorem dX7_here_30 : decode cX7_here 30 = .ok (.iadd, 1) := by decide +kernel
theorem dX7_here_31 : decode cX7_here 31 = .ok (.iaload, 1) := by decide +kernel
theorem dX7_here_32 : decode cX7_here 32 = .ok (.goto 4, 3) := by decide +kernel
theorem dX7_here_35 : decode cX7_here 35 = .ok (.iconst (-1), 1) := by decide +kernel
theorem dX7_here_36 : decode cX7_here 36 = .ok (.ireturn, 1) := by decide +kernel
theorem dX7_wrong_0 : decode cX7_wrong 0 = .ok (.aload_n 0, 1) := by decide +kernel
theorem dX7_wrong_1 : decode cX7_wrong 1 = .ok (.aload_n 0, 1) := by decide +kernel
theorem dX7_wrong_2 : decode cX7_wrong 2 = .ok (.getfield 64, 3) := by decide +kernel
theorem dX7_wrong_5 : decode cX7_wrong 5 = .ok (.ifCond .ge 10, 3) := by decide +kernel
theorem dX7_wrong_8 : decode cX7_wrong 8 = .ok (.aload_n 0, 1) := by decide +kernel
theorem dX7_wrong_9 : decode cX7_wrong 9 = .ok (.getfield 57, 3) := by decide +kernel
theorem dX7_wrong_12 : decode cX7_wrong 12 = .ok (.goto 7, 3) := by decide +kernel
theorem dX7_wrong_15 : decode cX7_wrong 15 = .ok (.aload_n 0, 1) := by decide +kernel
theorem dX7_wrong_16 : decode cX7_wrong 16 = .ok (.getfield 64, 3) := by decide +kernel
theorem dX7_wrong_19 : decode cX7_wrong 19 = .ok (.putfield 64, 3) := by decide +kernel
theorem dX7_wrong_22 : decode cX7_wrong 22 = .ok (.return_, 1) := by decide +kernel
theorem dX7_takes_0 : decode cX7_takes 0 = .ok (.aload_n 0, 1) := by decide +kernel
theorem dX7_takes_1 : decode cX7_takes 1 = .ok (.invokevirtual 70, 3) := by decide +kernel
theorem dX7_takes_4 : decode cX7_takes 4 = .ok (.iload_n 1, 1) := by decide +kernel
theorem dX7_takes_5 : decode cX7_takes 5 = .ok (.if_icmp .eq 5, 3) := by decide +kernel
theorem dX7_takes_8 : decode cX7_takes 8 = .ok (.iconst 0, 1) := by decide +kernel
theorem dX7_takes_9 : decode cX7_takes 9 = .ok (.ireturn, 1) := by decide +kernel
theorem dX7_takes_10 : decode cX7_takes 10 = .ok (.aload_n 0, 1) := by decide +kernel
theorem dX7_takes_11 : decode cX7_takes 11 = .ok (.dup, 1) := by decide +kernel
theorem dX7_takes_12 : decode cX7_takes 12 = .ok (.getfield 57, 3) := by decide +kernel
theorem dX7_takes_15 : decode cX7_takes 15 = .ok (.iconst 1, 1) := by decide +kernel
theorem dX7_takes_16 : decode cX7_takes 16 = .ok (.iadd, 1) := by decide +kernel
theorem dX7_takes_17 : decode cX7_takes 17 = .ok (.putfield 57, 3) := by decide +kernel
theorem dX7_takes_20 : decode cX7_takes 20 = .ok (.iconst 1, 1) := by decide +kernel
theorem dX7_takes_21 : decode cX7_takes 21 = .ok (.ireturn, 1) := by decide +kernel
theorem dX7_nameOf_0 : decode cX7_nameOf 0 = .ok (.aload_n 0, 1) := by decide +kernel
theorem dX7_nameOf_1 : decode cX7_nameOf 1 = .ok (.getfield 74, 3) := by decide +kernel
theorem dX7_nameOf_4 : decode cX7_nameOf 4 = .ok (.ifCond .eq 35, 3) := by decide +kernel
theorem dX7_nameOf_7 : decode cX7_nameOf 7 = .ok (.iload_n 1, 1) := by decide +kernel
theorem dX7_nameOf_8 : decode cX7_nameOf 8 = .ok (.bipush 100, 2) := by decide +kernel
theorem dX7_nameOf_10 : decode cX7_nameOf 10 = .ok (.if_icmp .ne 7, 3) := by decide +kernel
theorem dX7_nameOf_13 : decode cX7_nameOf 13 = .ok (.iconst 0, 1) := by decide +kernel
theorem dX7_nameOf_14 : decode cX7_nameOf 14 = .ok (.goto 24, 3) := by decide +kernel
theorem dX7_nameOf_17 : decode cX7_nameOf 17 = .ok (.iload_n 1, 1) := by decide +kernel
theorem dX7_nameOf_18 : decode cX7_nameOf 18 = .ok (.bipush 119, 2) := by decide +kernel
theorem dX7_nameOf_20 : decode cX7_nameOf 20 = .ok (.if_icmp .ne 7, 3) := by decide +kernel
theorem dX7_nameOf_23 : decode cX7_nameOf 23 = .ok (.iconst 1, 1) := by decide +kernel
theorem dX7_nameOf_24 : decode cX7_nameOf 24 = .ok (.goto 14, 3) := by decide +kernel
theorem dX7_nameOf_27 : decode cX7_nameOf 27 = .ok (.iload_n 1, 1) := by decide +kernel
theorem dX7_nameOf_28 : decode cX7_nameOf 28 = .ok (.bipush 108, 2) := by decide +kernel
theorem dX7_nameOf_30 : decode cX7_nameOf 30 = .ok (.if_icmp .ne 7, 3) := by decide +kernel
theorem dX7_nameOf_33 : decode cX7_nameOf 33 = .ok (.iconst 2, 1) := by decide +kernel
theorem dX7_nameOf_34 : decode cX7_nameOf 34 = .ok (.goto 4, 3) := by decide +kernel
theorem dX7_nameOf_37 : decode cX7_nameOf 37 = .ok (.iconst (-1), 1) := by decide +kernel
theorem dX7_nameOf_38 : decode cX7_nameOf 38 = .ok (.ireturn, 1) := by decide +kernel
theorem dX7_nameOf_39 : decode cX7_nameOf 39 = .ok (.iload_n 1, 1) := by decide +kernel
theorem dX7_nameOf_40 : decode cX7_nameOf 40 = .ok (.bipush 99, 2) := by decide +kernel
theorem dX7_nameOf_42 : decode cX7_nameOf 42 = .ok (.if_icmp .ne 7, 3) := by decide +kernel
theorem dX7_nameOf_45 : decode cX7_nameOf 45 = .ok (.iconst 0, 1) := by decide +kernel
theorem dX7_nameOf_46 : decode cX7_nameOf 46 = .ok (.goto 24, 3) := by decide +kernel
theorem dX7_nameOf_49 : decode cX7_nameOf 49 = .ok (.iload_n 1, 1) := by decide +kernel
theorem dX7_nameOf_50 : decode cX7_nameOf 50 = .ok (.bipush 111, 2) := by decide +kernel
theorem dX7_nameOf_52 : decode cX7_nameOf 52 = .ok (.if_icmp .ne 7, 3) := by decide +kernel
theorem dX7_nameOf_55 : decode cX7_nameOf 55 = .ok (.iconst 1, 1) := by decide +kernel
theorem dX7_nameOf_56 : decode cX7_nameOf 56 = .ok (.goto 14, 3) := by decide +kernel
theorem dX7_nameOf_59 : decode cX7_nameOf 59 = .ok (.iload_n 1, 1) := by decide +kernel
theorem dX7_nameOf_60 : decode cX7_nameOf 60 = .ok (.bipush 104, 2) := by decide +kernel
theorem dX7_nameOf_62 : decode cX7_nameOf 62 = .ok (.if_icmp .ne 7, 3) := by decide +kernel
theorem dX7_nameOf_65 : decode cX7_nameOf 65 = .ok (.iconst 2, 1) := by decide +kernel
theorem dX7_nameOf_66 : decode cX7_nameOf 66 = .ok (.goto 4, 3) := by decide +kernel
theorem dX7_nameOf_69 : decode cX7_nameOf 69 = .ok (.iconst (-1), 1) := by decide +kernel
theorem dX7_nameOf_70 : decode cX7_nameOf 70 = .ok (.ireturn, 1) := by decide +kernel
theorem dX7_lay_0 : decode cX7_lay 0 = .ok (.aload_n 0, 1) := by decide +kernel
theorem dX7_lay_1 : decode cX7_lay 1 = .ok (.getfield 64, 3) := by decide +kernel
theorem dX7_lay_4 : decode cX7_lay 4 = .ok (.ifCond .ge 23, 3) := by decide +kernel
theorem dX7_lay_7 : decode cX7_lay 7 = .ok (.aload_n 0, 1) := by decide +kernel
theorem dX7_lay_8 : decode cX7_lay 8 = .ok (.getfield 25, 3) := by decide +kernel
theorem dX7_lay_11 : decode cX7_lay 11 = .ok (.aload_n 0, 1) := by decide +kernel
theorem dX7_lay_12 : decode cX7_lay 12 = .ok (.getfield 78, 3) := by decide +kernel
theorem dX7_lay_15 : decode cX7_lay 15 = .ok (.iload_n 1, 1) := by decide +kernel
theorem dX7_lay_16 : decode cX7_lay 16 = .ok (.iastore, 1) := by decide +kernel
theorem dX7_lay_17 : decode cX7_lay 17 = .ok (.aload_n 0, 1) := by decide +kernel
theorem dX7_lay_18 : decode cX7_lay 18 = .ok (.dup, 1) := by decide +kernel
theorem dX7_lay_19 : decode cX7_lay 19 = .ok (.getfield 78, 3) := by decide +kernel
theorem dX7_lay_22 : decode cX7_lay 22 = .ok (.iconst 1, 1) := by decide +kernel
theorem dX7_lay_23 : decode cX7_lay 23 = .ok (.iadd, 1) := by decide +kernel
theorem dX7_lay_24 : decode cX7_lay 24 = .ok (.putfield 78, 3) := by decide +kernel
theorem dX7_lay_27 : decode cX7_lay 27 = .ok (.return_, 1) := by decide +kernel
theorem dX7_either_0 : decode cX7_either 0 = .ok (.aload_n 0, 1) := by decide +kernel
theorem dX7_either_1 : decode cX7_either 1 = .ok (.invokevirtual 81, 3) := by decide +kernel
theorem dX7_either_4 : decode cX7_either 4 = .ok (.aload_n 0, 1) := by decide +kernel
theorem dX7_either_5 : decode cX7_either 5 = .ok (.bipush 124, 2) := by decide +kernel
theorem dX7_either_7 : decode cX7_either 7 = .ok (.invokevirtual 84, 3) := by decide +kernel
theorem dX7_either_10 : decode cX7_either 10 = .ok (.ifCond .eq 17, 3) := by decide +kernel
theorem dX7_either_13 : decode cX7_either 13 = .ok (.aload_n 0, 1) := by decide +kernel
theorem dX7_either_14 : decode cX7_either 14 = .ok (.invokevirtual 81, 3) := by decide +kernel
theorem dX7_either_17 : decode cX7_either 17 = .ok (.aload_n 0, 1) := by decide +kernel
theorem dX7_either_18 : decode cX7_either 18 = .ok (.sipush 20124, 3) := by decide +kernel
theorem dX7_either_21 : decode cX7_either 21 = .ok (.invokevirtual 88, 3) := by decide +kernel
theorem dX7_either_24 : decode cX7_either 24 = .ok (.goto (-20), 3) := by decide +kernel
theorem dX7_either_27 : decode cX7_either 27 = .ok (.return_, 1) := by decide +kernel
theorem dX7_both_0 : decode cX7_both 0 = .ok (.aload_n 0, 1) := by decide +kernel
theorem dX7_both_1 : decode cX7_both 1 = .ok (.invokevirtual 92, 3) := by decide +kernel
theorem dX7_both_4 : decode cX7_both 4 = .ok (.aload_n 0, 1) := by decide +kernel
theorem dX7_both_5 : decode cX7_both 5 = .ok (.bipush 38, 2) := by decide +kernel
theorem dX7_both_7 : decode cX7_both 7 = .ok (.invokevirtual 84, 3) := by decide +kernel
theorem dX7_both_10 : decode cX7_both 10 = .ok (.ifCond .eq 17, 3) := by decide +kernel
theorem dX7_both_13 : decode cX7_both 13 = .ok (.aload_n 0, 1) := by decide +kernel
theorem dX7_both_14 : decode cX7_both 14 = .ok (.invokevirtual 92, 3) := by decide +kernel
theorem dX7_both_17 : decode cX7_both 17 = .ok (.aload_n 0, 1) := by decide +kernel
theorem dX7_both_18 : decode cX7_both 18 = .ok (.sipush 20038, 3) := by decide +kernel
theorem dX7_both_21 : decode cX7_both 21 = .ok (.invokevirtual 88, 3) := by decide +kernel
theorem dX7_both_24 : decode cX7_both 24 = .ok (.goto (-20), 3) := by decide +kernel
theorem dX7_both_27 : decode cX7_both 27 = .ok (.return_, 1) := by decide +kernel
theorem dX7_compared_0 : decode cX7_compared 0 = .ok (.aload_n 0, 1) := by decide +kernel
theorem dX7_compared_1 : decode cX7_compared 1 = .ok (.invokevirtual 95, 3) := by decide +kernel
theorem dX7_compared_4 : decode cX7_compared 4 = .ok (.aload_n 0, 1) := by decide +kernel
theorem dX7_compared_5 : decode cX7_compared 5 = .ok (.invokevirtual 70, 3) := by decide +kernel
theorem dX7_compared_8 : decode cX7_compared 8 = .ok (.istore_n 1, 1) := by decide +kernel
theorem dX7_compared_9 : decode cX7_compared 9 = .ok (.iload_n 1, 1) := by decide +kernel
theorem dX7_compared_10 : decode cX7_compared 10 = .ok (.bipush 60, 2) := by decide +kernel
theorem dX7_compared_12 : decode cX7_compared 12 = .ok (.if_icmp .eq 15, 3) := by decide +kernel
theorem dX7_compared_15 : decode cX7_compared 15 = .ok (.iload_n 1, 1) := by decide +kernel
theorem dX7_compared_16 : decode cX7_compared 16 = .ok (.bipush 61, 2) := by decide +kernel
theorem dX7_compared_18 : decode cX7_compared 18 = .ok (.if_icmp .eq 9, 3) := by decide +kernel
theorem dX7_compared_21 : decode cX7_compared 21 = .ok (.iload_n 1, 1) := by decide +kernel
theorem dX7_compared_22 : decode cX7_compared 22 = .ok (.bipush 62, 2) := by decide +kernel
theorem dX7_compared_24 : decode cX7_compared 24 = .ok (.if_icmp .ne 26, 3) := by decide +kernel
theorem dX7_compared_27 : decode cX7_compared 27 = .ok (.aload_n 0, 1) := by decide +kernel
theorem dX7_compared_28 : decode cX7_compared 28 = .ok (.dup, 1) := by decide +kernel
theorem dX7_compared_29 : decode cX7_compared 29 = .ok (.getfield 57, 3) := by decide +kernel
theorem dX7_compared_32 : decode cX7_compared 32 = .ok (.iconst 1, 1) := by decide +kernel
theorem dX7_compared_33 : decode cX7_compared 33 = .ok (.iadd, 1) := by decide +kernel
theorem dX7_compared_34 : decode cX7_compared 34 = .ok (.putfield 57, 3) := by decide +kernel
theorem dX7_compared_37 : decode cX7_compared 37 = .ok (.aload_n 0, 1) := by decide +kernel
theorem dX7_compared_38 : decode cX7_compared 38 = .ok (.invokevirtual 95, 3) := by decide +kernel
theorem dX7_compared_41 : decode cX7_compared 41 = .ok (.aload_n 0, 1) := by decide +kernel
theorem dX7_compared_42 : decode cX7_compared 42 = .ok (.sipush 20000, 3) := by decide +kernel
theorem dX7_compared_45 : decode cX7_compared 45 = .ok (.iload_n 1, 1) := by decide +kernel
theorem dX7_compared_46 : decode cX7_compared 46 = .ok (.iadd, 1) := by decide +kernel
theorem dX7_compared_47 : decode cX7_compared 47 = .ok (.invokevirtual 88, 3) := by decide +kernel
theorem dX7_compared_50 : decode cX7_compared 50 = .ok (.return_, 1) := by decide +kernel
theorem dX7_sum_0 : decode cX7_sum 0 = .ok (.aload_n 0, 1) := by decide +kernel
theorem dX7_sum_1 : decode cX7_sum 1 = .ok (.invokevirtual 98, 3) := by decide +kernel
theorem dX7_sum_4 : decode cX7_sum 4 = .ok (.aload_n 0, 1) := by decide +kernel
theorem dX7_sum_5 : decode cX7_sum 5 = .ok (.invokevirtual 70, 3) := by decide +kernel
theorem dX7_sum_8 : decode cX7_sum 8 = .ok (.bipush 43, 2) := by decide +kernel
theorem dX7_sum_10 : decode cX7_sum 10 = .ok (.if_icmp .eq 12, 3) := by decide +kernel
theorem dX7_sum_13 : decode cX7_sum 13 = .ok (.aload_n 0, 1) := by decide +kernel
theorem dX7_sum_14 : decode cX7_sum 14 = .ok (.invokevirtual 70, 3) := by decide +kernel
theorem dX7_sum_17 : decode cX7_sum 17 = .ok (.bipush 45, 2) := by decide +kernel
theorem dX7_sum_19 : decode cX7_sum 19 = .ok (.if_icmp .ne 34, 3) := by decide +kernel
theorem dX7_sum_22 : decode cX7_sum 22 = .ok (.aload_n 0, 1) := by decide +kernel
theorem dX7_sum_23 : decode cX7_sum 23 = .ok (.invokevirtual 70, 3) := by decide +kernel
theorem dX7_sum_26 : decode cX7_sum 26 = .ok (.istore_n 1, 1) := by decide +kernel
theorem dX7_sum_27 : decode cX7_sum 27 = .ok (.aload_n 0, 1) := by decide +kernel
theorem dX7_sum_28 : decode cX7_sum 28 = .ok (.dup, 1) := by decide +kernel
theorem dX7_sum_29 : decode cX7_sum 29 = .ok (.getfield 57, 3) := by decide +kernel
theorem dX7_sum_32 : decode cX7_sum 32 = .ok (.iconst 1, 1) := by decide +kernel
theorem dX7_sum_33 : decode cX7_sum 33 = .ok (.iadd, 1) := by decide +kernel
theorem dX7_sum_34 : decode cX7_sum 34 = .ok (.putfield 57, 3) := by decide +kernel
theorem dX7_sum_37 : decode cX7_sum 37 = .ok (.aload_n 0, 1) := by decide +kernel
theorem dX7_sum_38 : decode cX7_sum 38 = .ok (.invokevirtual 98, 3) := by decide +kernel
theorem dX7_sum_41 : decode cX7_sum 41 = .ok (.aload_n 0, 1) := by decide +kernel
theorem dX7_sum_42 : decode cX7_sum 42 = .ok (.sipush 20000, 3) := by decide +kernel
theorem dX7_sum_45 : decode cX7_sum 45 = .ok (.iload_n 1, 1) := by decide +kernel
theorem dX7_sum_46 : decode cX7_sum 46 = .ok (.iadd, 1) := by decide +kernel
theorem dX7_sum_47 : decode cX7_sum 47 = .ok (.invokevirtual 88, 3) := by decide +kernel
theorem dX7_sum_50 : decode cX7_sum 50 = .ok (.goto (-46), 3) := by decide +kernel
theorem dX7_sum_53 : decode cX7_sum 53 = .ok (.return_, 1) := by decide +kernel
theorem dX7_product_0 : decode cX7_product 0 = .ok (.aload_n 0, 1) := by decide +kernel
theorem dX7_product_1 : decode cX7_product 1 = .ok (.invokevirtual 101, 3) := by decide +kernel
theorem dX7_product_4 : decode cX7_product 4 = .ok (.aload_n 0, 1) := by decide +kernel
theorem dX7_product_5 : decode cX7_product 5 = .ok (.invokevirtual 70, 3) := by decide +kernel
theorem dX7_product_8 : decode cX7_product 8 = .ok (.bipush 42, 2) := by decide +kernel
theorem dX7_product_10 : decode cX7_product 10 = .ok (.if_icmp .eq 21, 3) := by decide +kernel
theorem dX7_product_13 : decode cX7_product 13 = .ok (.aload_n 0, 1) := by decide +kernel
theorem dX7_product_14 : decode cX7_product 14 = .ok (.invokevirtual 70, 3) := by decide +kernel
theorem dX7_product_17 : decode cX7_product 17 = .ok (.bipush 47, 2) := by decide +kernel
theorem dX7_product_19 : decode cX7_product 19 = .ok (.if_icmp .eq 12, 3) := by decide +kernel
theorem dX7_product_22 : decode cX7_product 22 = .ok (.aload_n 0, 1) := by decide +kernel
theorem dX7_product_23 : decode cX7_product 23 = .ok (.invokevirtual 70, 3) := by decide +kernel
theorem dX7_product_26 : decode cX7_product 26 = .ok (.bipush 37, 2) := by decide +kernel
theorem dX7_product_28 : decode cX7_product 28 = .ok (.if_icmp .ne 34, 3) := by decide +kernel
theorem dX7_product_31 : decode cX7_product 31 = .ok (.aload_n 0, 1) := by decide +kernel
theorem dX7_product_32 : decode cX7_product 32 = .ok (.invokevirtual 70, 3) := by decide +kernel
theorem dX7_product_35 : decode cX7_product 35 = .ok (.istore_n 1, 1) := by decide +kernel
theorem dX7_product_36 : decode cX7_product 36 = .ok (.aload_n 0, 1) := by decide +kernel
theorem dX7_product_37 : decode cX7_product 37 = .ok (.dup, 1) := by decide +kernel
theorem dX7_product_38 : decode cX7_product 38 = .ok (.getfield 57, 3) := by decide +kernel
theorem dX7_product_41 : decode cX7_product 41 = .ok (.iconst 1, 1) := by decide +kernel
theorem dX7_product_42 : decode cX7_product 42 = .ok (.iadd, 1) := by decide +kernel
theorem dX7_product_43 : decode cX7_product 43 = .ok (.putfield 57, 3) := by decide +kernel
theorem dX7_product_46 : decode cX7_product 46 = .ok (.aload_n 0, 1) := by decide +kernel
theorem dX7_product_47 : decode cX7_product 47 = .ok (.invokevirtual 101, 3) := by decide +kernel
theorem dX7_product_50 : decode cX7_product 50 = .ok (.aload_n 0, 1) := by decide +kernel
theorem dX7_product_51 : decode cX7_product 51 = .ok (.sipush 20000, 3) := by decide +kernel
theorem dX7_product_54 : decode cX7_product 54 = .ok (.iload_n 1, 1) := by decide +kernel
theorem dX7_product_55 : decode cX7_product 55 = .ok (.iadd, 1) := by decide +kernel
theorem dX7_product_56 : decode cX7_product 56 = .ok (.invokevirtual 88, 3) := by decide +kernel
theorem dX7_product_59 : decode cX7_product 59 = .ok (.goto (-55), 3) := by decide +kernel
theorem dX7_product_62 : decode cX7_product 62 = .ok (.return_, 1) := by decide +kernel
theorem dX7_opens_0 : decode cX7_opens 0 = .ok (.aload_n 0, 1) := by decide +kernel
theorem dX7_opens_1 : decode cX7_opens 1 = .ok (.getfield 104, 3) := by decide +kernel
theorem dX7_opens_4 : decode cX7_opens 4 = .ok (.iconst 5, 1) := by decide +kernel
theorem dX7_opens_5 : decode cX7_opens 5 = .ok (.if_icmp .ne 8, 3) := by decide +kernel
theorem dX7_opens_8 : decode cX7_opens 8 = .ok (.aload_n 0, 1) := by decide +kernel
theorem dX7_opens_9 : decode cX7_opens 9 = .ok (.invokevirtual 107, 3) := by decide +kernel
theorem dX7_opens_12 : decode cX7_opens 12 = .ok (.return_, 1) := by decide +kernel
theorem dX7_opens_13 : decode cX7_opens 13 = .ok (.aload_n 0, 1) := by decide +kernel
theorem dX7_opens_14 : decode cX7_opens 14 = .ok (.dup, 1) := by decide +kernel
theorem dX7_opens_15 : decode cX7_opens 15 = .ok (.getfield 104, 3) := by decide +kernel
theorem dX7_opens_18 : decode cX7_opens 18 = .ok (.iconst 1, 1) := by decide +kernel
theorem dX7_opens_19 : decode cX7_opens 19 = .ok (.iadd, 1) := by decide +kernel
theorem dX7_opens_20 : decode cX7_opens 20 = .ok (.putfield 104, 3) := by decide +kernel
theorem dX7_opens_23 : decode cX7_opens 23 = .ok (.aload_n 0, 1) := by decide +kernel
theorem dX7_opens_24 : decode cX7_opens 24 = .ok (.dup, 1) := by decide +kernel
theorem dX7_opens_25 : decode cX7_opens 25 = .ok (.getfield 57, 3) := by decide +kernel
theorem dX7_opens_28 : decode cX7_opens 28 = .ok (.iconst 1, 1) := by decide +kernel
theorem dX7_opens_29 : decode cX7_opens 29 = .ok (.iadd, 1) := by decide +kernel
theorem dX7_opens_30 : decode cX7_opens 30 = .ok (.putfield 57, 3) := by decide +kernel
theorem dX7_opens_33 : decode cX7_opens 33 = .ok (.iload_n 1, 1) := by decide +kernel
theorem dX7_opens_34 : decode cX7_opens 34 = .ok (.bipush 33, 2) := by decide +kernel
theorem dX7_opens_36 : decode cX7_opens 36 = .ok (.if_icmp .ne 17, 3) := by decide +kernel
theorem dX7_opens_39 : decode cX7_opens 39 = .ok (.aload_n 0, 1) := by decide +kernel
theorem dX7_opens_40 : decode cX7_opens 40 = .ok (.invokevirtual 101, 3) := by decide +kernel
theorem dX7_opens_43 : decode cX7_opens 43 = .ok (.aload_n 0, 1) := by decide +kernel
theorem dX7_opens_44 : decode cX7_opens 44 = .ok (.sipush 20033, 3) := by decide +kernel
theorem dX7_opens_47 : decode cX7_opens 47 = .ok (.invokevirtual 88, 3) := by decide +kernel
theorem dX7_opens_50 : decode cX7_opens 50 = .ok (.goto 20, 3) := by decide +kernel
theorem dX7_opens_53 : decode cX7_opens 53 = .ok (.aload_n 0, 1) := by decide +kernel
theorem dX7_opens_54 : decode cX7_opens 54 = .ok (.invokevirtual 110, 3) := by decide +kernel
theorem dX7_opens_57 : decode cX7_opens 57 = .ok (.aload_n 0, 1) := by decide +kernel
theorem dX7_opens_58 : decode cX7_opens 58 = .ok (.bipush 41, 2) := by decide +kernel
theorem dX7_opens_60 : decode cX7_opens 60 = .ok (.invokevirtual 84, 3) := by decide +kernel
theorem dX7_opens_63 : decode cX7_opens 63 = .ok (.ifCond .ne 7, 3) := by decide +kernel
theorem dX7_opens_66 : decode cX7_opens 66 = .ok (.aload_n 0, 1) := by decide +kernel
theorem dX7_opens_67 : decode cX7_opens 67 = .ok (.invokevirtual 107, 3) := by decide +kernel
theorem dX7_opens_70 : decode cX7_opens 70 = .ok (.aload_n 0, 1) := by decide +kernel
theorem dX7_opens_71 : decode cX7_opens 71 = .ok (.dup, 1) := by decide +kernel
theorem dX7_opens_72 : decode cX7_opens 72 = .ok (.getfield 104, 3) := by decide +kernel
theorem dX7_opens_75 : decode cX7_opens 75 = .ok (.iconst 1, 1) := by decide +kernel
theorem dX7_opens_76 : decode cX7_opens 76 = .ok (.isub, 1) := by decide +kernel
theorem dX7_opens_77 : decode cX7_opens 77 = .ok (.putfield 104, 3) := by decide +kernel
theorem dX7_opens_80 : decode cX7_opens 80 = .ok (.return_, 1) := by decide +kernel
theorem dX7_unit_0 : decode cX7_unit 0 = .ok (.aload_n 0, 1) := by decide +kernel
theorem dX7_unit_1 : decode cX7_unit 1 = .ok (.invokevirtual 70, 3) := by decide +kernel
theorem dX7_unit_4 : decode cX7_unit 4 = .ok (.istore_n 1, 1) := by decide +kernel
theorem dX7_unit_5 : decode cX7_unit 5 = .ok (.iload_n 1, 1) := by decide +kernel
theorem dX7_unit_6 : decode cX7_unit 6 = .ok (.bipush 33, 2) := by decide +kernel
theorem dX7_unit_8 : decode cX7_unit 8 = .ok (.if_icmp .eq 9, 3) := by decide +kernel
theorem dX7_unit_11 : decode cX7_unit 11 = .ok (.iload_n 1, 1) := by decide +kernel
theorem dX7_unit_12 : decode cX7_unit 12 = .ok (.bipush 40, 2) := by decide +kernel
theorem dX7_unit_14 : decode cX7_unit 14 = .ok (.if_icmp .ne 9, 3) := by decide +kernel
theorem dX7_unit_17 : decode cX7_unit 17 = .ok (.aload_n 0, 1) := by decide +kernel
theorem dX7_unit_18 : decode cX7_unit 18 = .ok (.iload_n 1, 1) := by decide +kernel
theorem dX7_unit_19 : decode cX7_unit 19 = .ok (.invokevirtual 113, 3) := by decide +kernel
theorem dX7_unit_22 : decode cX7_unit 22 = .ok (.return_, 1) := by decide +kernel
theorem dX7_unit_23 : decode cX7_unit 23 = .ok (.aload_n 0, 1) := by decide +kernel
theorem dX7_unit_24 : decode cX7_unit 24 = .ok (.iload_n 1, 1) := by decide +kernel
theorem dX7_unit_25 : decode cX7_unit 25 = .ok (.invokevirtual 116, 3) := by decide +kernel
theorem dX7_unit_28 : decode cX7_unit 28 = .ok (.istore_n 2, 1) := by decide +kernel
theorem dX7_unit_29 : decode cX7_unit 29 = .ok (.iload_n 2, 1) := by decide +kernel
theorem dX7_unit_30 : decode cX7_unit 30 = .ok (.ifCond .lt 23, 3) := by decide +kernel
theorem dX7_unit_33 : decode cX7_unit 33 = .ok (.aload_n 0, 1) := by decide +kernel
theorem dX7_unit_34 : decode cX7_unit 34 = .ok (.dup, 1) := by decide +kernel
theorem dX7_unit_35 : decode cX7_unit 35 = .ok (.getfield 57, 3) := by decide +kernel
theorem dX7_unit_38 : decode cX7_unit 38 = .ok (.iconst 1, 1) := by decide +kernel
theorem dX7_unit_39 : decode cX7_unit 39 = .ok (.iadd, 1) := by decide +kernel
theorem dX7_unit_40 : decode cX7_unit 40 = .ok (.putfield 57, 3) := by decide +kernel
theorem dX7_unit_43 : decode cX7_unit 43 = .ok (.aload_n 0, 1) := by decide +kernel
theorem dX7_unit_44 : decode cX7_unit 44 = .ok (.sipush 10000, 3) := by decide +kernel
theorem dX7_unit_47 : decode cX7_unit 47 = .ok (.iload_n 2, 1) := by decide +kernel
theorem dX7_unit_48 : decode cX7_unit 48 = .ok (.iadd, 1) := by decide +kernel
theorem dX7_unit_49 : decode cX7_unit 49 = .ok (.invokevirtual 88, 3) := by decide +kernel
theorem dX7_unit_52 : decode cX7_unit 52 = .ok (.return_, 1) := by decide +kernel
theorem dX7_unit_53 : decode cX7_unit 53 = .ok (.iconst 0, 1) := by decide +kernel
theorem dX7_unit_54 : decode cX7_unit 54 = .ok (.istore_n 3, 1) := by decide +kernel
theorem dX7_unit_55 : decode cX7_unit 55 = .ok (.iconst 0, 1) := by decide +kernel
theorem dX7_unit_56 : decode cX7_unit 56 = .ok (.istore 4, 2) := by decide +kernel
theorem dX7_unit_58 : decode cX7_unit 58 = .ok (.iload 4, 2) := by decide +kernel
theorem dX7_unit_60 : decode cX7_unit 60 = .ok (.iconst 4, 1) := by decide +kernel
theorem dX7_unit_61 : decode cX7_unit 61 = .ok (.if_icmp .ge 49, 3) := by decide +kernel
theorem dX7_unit_64 : decode cX7_unit 64 = .ok (.aload_n 0, 1) := by decide +kernel
theorem dX7_unit_65 : decode cX7_unit 65 = .ok (.invokevirtual 70, 3) := by decide +kernel
theorem dX7_unit_68 : decode cX7_unit 68 = .ok (.i2l, 1) := by decide +kernel
theorem dX7_unit_69 : decode cX7_unit 69 = .ok (.ldc2_w 120, 3) := by decide +kernel
theorem dX7_unit_72 : decode cX7_unit 72 = .ok (.ldc2_w 122, 3) := by decide +kernel
theorem dX7_unit_75 : decode cX7_unit 75 = .ok (.invokestatic 53, 3) := by decide +kernel
theorem dX7_unit_78 : decode cX7_unit 78 = .ok (.ifCond .eq 32, 3) := by decide +kernel
theorem dX7_unit_81 : decode cX7_unit 81 = .ok (.bipush 10, 2) := by decide +kernel
theorem dX7_unit_83 : decode cX7_unit 83 = .ok (.iload_n 3, 1) := by decide +kernel
theorem dX7_unit_84 : decode cX7_unit 84 = .ok (.imul, 1) := by decide +kernel
theorem dX7_unit_85 : decode cX7_unit 85 = .ok (.aload_n 0, 1) := by decide +kernel
theorem dX7_unit_86 : decode cX7_unit 86 = .ok (.invokevirtual 70, 3) := by decide +kernel
theorem dX7_unit_89 : decode cX7_unit 89 = .ok (.iadd, 1) := by decide +kernel
theorem dX7_unit_90 : decode cX7_unit 90 = .ok (.bipush 48, 2) := by decide +kernel
theorem dX7_unit_92 : decode cX7_unit 92 = .ok (.isub, 1) := by decide +kernel
theorem dX7_unit_93 : decode cX7_unit 93 = .ok (.istore_n 3, 1) := by decide +kernel
theorem dX7_unit_94 : decode cX7_unit 94 = .ok (.aload_n 0, 1) := by decide +kernel
theorem dX7_unit_95 : decode cX7_unit 95 = .ok (.dup, 1) := by decide +kernel
theorem dX7_unit_96 : decode cX7_unit 96 = .ok (.getfield 57, 3) := by decide +kernel
theorem dX7_unit_99 : decode cX7_unit 99 = .ok (.iconst 1, 1) := by decide +kernel
theorem dX7_unit_100 : decode cX7_unit 100 = .ok (.iadd, 1) := by decide +kernel
theorem dX7_unit_101 : decode cX7_unit 101 = .ok (.putfield 57, 3) := by decide +kernel
theorem dX7_unit_104 : decode cX7_unit 104 = .ok (.iinc 4 1, 3) := by decide +kernel
theorem dX7_unit_107 : decode cX7_unit 107 = .ok (.goto (-49), 3) := by decide +kernel
theorem dX7_unit_110 : decode cX7_unit 110 = .ok (.iload 4, 2) := by decide +kernel
theorem dX7_unit_112 : decode cX7_unit 112 = .ok (.ifCond .ne 7, 3) := by decide +kernel
theorem dX7_unit_115 : decode cX7_unit 115 = .ok (.aload_n 0, 1) := by decide +kernel
theorem dX7_unit_116 : decode cX7_unit 116 = .ok (.invokevirtual 107, 3) := by decide +kernel
theorem dX7_unit_119 : decode cX7_unit 119 = .ok (.aload_n 0, 1) := by decide +kernel
theorem dX7_unit_120 : decode cX7_unit 120 = .ok (.iload_n 3, 1) := by decide +kernel
theorem dX7_unit_121 : decode cX7_unit 121 = .ok (.invokevirtual 88, 3) := by decide +kernel
theorem dX7_unit_124 : decode cX7_unit 124 = .ok (.return_, 1) := by decide +kernel
theorem dX7_reads_0 : decode cX7_reads 0 = .ok (.aload_n 0, 1) := by decide +kernel
theorem dX7_reads_1 : decode cX7_reads 1 = .ok (.iload_n 1, 1) := by decide +kernel
theorem dX7_reads_2 : decode cX7_reads 2 = .ok (.putfield 67, 3) := by decide +kernel
theorem dX7_reads_5 : decode cX7_reads 5 = .ok (.aload_n 0, 1) := by decide +kernel
theorem dX7_reads_6 : decode cX7_reads 6 = .ok (.iconst 0, 1) := by decide +kernel
theorem dX7_reads_7 : decode cX7_reads 7 = .ok (.putfield 57, 3) := by decide +kernel
theorem dX7_reads_10 : decode cX7_reads 10 = .ok (.aload_n 0, 1) := by decide +kernel
theorem dX7_reads_11 : decode cX7_reads 11 = .ok (.iload_n 2, 1) := by decide +kernel
theorem dX7_reads_12 : decode cX7_reads 12 = .ok (.putfield 61, 3) := by decide +kernel
theorem dX7_reads_15 : decode cX7_reads 15 = .ok (.aload_n 0, 1) := by decide +kernel
theorem dX7_reads_16 : decode cX7_reads 16 = .ok (.iconst (-1), 1) := by decide +kernel
theorem dX7_reads_17 : decode cX7_reads 17 = .ok (.putfield 64, 3) := by decide +kernel
theorem dX7_reads_20 : decode cX7_reads 20 = .ok (.aload_n 0, 1) := by decide +kernel
theorem dX7_reads_21 : decode cX7_reads 21 = .ok (.iconst 0, 1) := by decide +kernel
theorem dX7_reads_22 : decode cX7_reads 22 = .ok (.putfield 104, 3) := by decide +kernel
theorem dX7_reads_25 : decode cX7_reads 25 = .ok (.aload_n 0, 1) := by decide +kernel
theorem dX7_reads_26 : decode cX7_reads 26 = .ok (.iconst 0, 1) := by decide +kernel
theorem dX7_reads_27 : decode cX7_reads 27 = .ok (.putfield 78, 3) := by decide +kernel
theorem dX7_reads_30 : decode cX7_reads 30 = .ok (.aload_n 0, 1) := by decide +kernel
theorem dX7_reads_31 : decode cX7_reads 31 = .ok (.iload_n 3, 1) := by decide +kernel
theorem dX7_reads_32 : decode cX7_reads 32 = .ok (.iconst 1, 1) := by decide +kernel
theorem dX7_reads_33 : decode cX7_reads 33 = .ok (.if_icmp .ne 7, 3) := by decide +kernel
theorem dX7_reads_36 : decode cX7_reads 36 = .ok (.iconst 1, 1) := by decide +kernel
theorem dX7_reads_37 : decode cX7_reads 37 = .ok (.goto 4, 3) := by decide +kernel
theorem dX7_reads_40 : decode cX7_reads 40 = .ok (.iconst 0, 1) := by decide +kernel
theorem dX7_reads_41 : decode cX7_reads 41 = .ok (.putfield 74, 3) := by decide +kernel
theorem dX7_reads_44 : decode cX7_reads 44 = .ok (.aload_n 0, 1) := by decide +kernel
theorem dX7_reads_45 : decode cX7_reads 45 = .ok (.invokevirtual 110, 3) := by decide +kernel
theorem dX7_reads_48 : decode cX7_reads 48 = .ok (.aload_n 0, 1) := by decide +kernel
theorem dX7_reads_49 : decode cX7_reads 49 = .ok (.getfield 64, 3) := by decide +kernel
theorem dX7_reads_52 : decode cX7_reads 52 = .ok (.ifCond .ge 18, 3) := by decide +kernel
theorem dX7_reads_55 : decode cX7_reads 55 = .ok (.aload_n 0, 1) := by decide +kernel
theorem dX7_reads_56 : decode cX7_reads 56 = .ok (.getfield 57, 3) := by decide +kernel
theorem dX7_reads_59 : decode cX7_reads 59 = .ok (.aload_n 0, 1) := by decide +kernel
theorem dX7_reads_60 : decode cX7_reads 60 = .ok (.getfield 61, 3) := by decide +kernel
theorem dX7_reads_63 : decode cX7_reads 63 = .ok (.if_icmp .ge 7, 3) := by decide +kernel
theorem dX7_reads_66 : decode cX7_reads 66 = .ok (.aload_n 0, 1) := by decide +kernel
theorem dX7_reads_67 : decode cX7_reads 67 = .ok (.invokevirtual 107, 3) := by decide +kernel
theorem dX7_reads_70 : decode cX7_reads 70 = .ok (.return_, 1) := by decide +kernel
theorem dX7_done_0 : decode cX7_done 0 = .ok (.iload_n 0, 1) := by decide +kernel
theorem dX7_done_1 : decode cX7_done 1 = .ok (.lookupswitch 168 #[(38, 97), (42, 152), (43, 144), (45, 148), (47, 156), (60, 111), (61, 122), (62, 133), (124, 83)], 83) := by decide +kernel
theorem dX7_done_84 : decode cX7_done 84 = .ok (.iload_n 1, 1) := by decide +kernel
theorem dX7_done_85 : decode cX7_done 85 = .ok (.ifCond .ne 7, 3) := by decide +kernel
theorem dX7_done_88 : decode cX7_done 88 = .ok (.iload_n 2, 1) := by decide +kernel
theorem dX7_done_89 : decode cX7_done 89 = .ok (.ifCond .eq 7, 3) := by decide +kernel
theorem dX7_done_92 : decode cX7_done 92 = .ok (.iconst 1, 1) := by decide +kernel
theorem dX7_done_93 : decode cX7_done 93 = .ok (.goto 4, 3) := by decide +kernel
theorem dX7_done_96 : decode cX7_done 96 = .ok (.iconst 0, 1) := by decide +kernel
theorem dX7_done_97 : decode cX7_done 97 = .ok (.ireturn, 1) := by decide +kernel
theorem dX7_done_98 : decode cX7_done 98 = .ok (.iload_n 1, 1) := by decide +kernel
theorem dX7_done_99 : decode cX7_done 99 = .ok (.ifCond .eq 11, 3) := by decide +kernel
theorem dX7_done_102 : decode cX7_done 102 = .ok (.iload_n 2, 1) := by decide +kernel
theorem dX7_done_103 : decode cX7_done 103 = .ok (.ifCond .eq 7, 3) := by decide +kernel
theorem dX7_done_106 : decode cX7_done 106 = .ok (.iconst 1, 1) := by decide +kernel
theorem dX7_done_107 : decode cX7_done 107 = .ok (.goto 4, 3) := by decide +kernel
theorem dX7_done_110 : decode cX7_done 110 = .ok (.iconst 0, 1) := by decide +kernel
theorem dX7_done_111 : decode cX7_done 111 = .ok (.ireturn, 1) := by decide +kernel
theorem dX7_done_112 : decode cX7_done 112 = .ok (.iload_n 1, 1) := by decide +kernel
theorem dX7_done_113 : decode cX7_done 113 = .ok (.iload_n 2, 1) := by decide +kernel
theorem dX7_done_114 : decode cX7_done 114 = .ok (.if_icmp .ge 7, 3) := by decide +kernel
theorem dX7_done_117 : decode cX7_done 117 = .ok (.iconst 1, 1) := by decide +kernel
theorem dX7_done_118 : decode cX7_done 118 = .ok (.goto 4, 3) := by decide +kernel
theorem dX7_done_121 : decode cX7_done 121 = .ok (.iconst 0, 1) := by decide +kernel
theorem dX7_done_122 : decode cX7_done 122 = .ok (.ireturn, 1) := by decide +kernel
theorem dX7_done_123 : decode cX7_done 123 = .ok (.iload_n 1, 1) := by decide +kernel
theorem dX7_done_124 : decode cX7_done 124 = .ok (.iload_n 2, 1) := by decide +kernel
theorem dX7_done_125 : decode cX7_done 125 = .ok (.if_icmp .ne 7, 3) := by decide +kernel
theorem dX7_done_128 : decode cX7_done 128 = .ok (.iconst 1, 1) := by decide +kernel
theorem dX7_done_129 : decode cX7_done 129 = .ok (.goto 4, 3) := by decide +kernel
theorem dX7_done_132 : decode cX7_done 132 = .ok (.iconst 0, 1) := by decide +kernel
theorem dX7_done_133 : decode cX7_done 133 = .ok (.ireturn, 1) := by decide +kernel
theorem dX7_done_134 : decode cX7_done 134 = .ok (.iload_n 1, 1) := by decide +kernel
theorem dX7_done_135 : decode cX7_done 135 = .ok (.iload_n 2, 1) := by decide +kernel
theorem dX7_done_136 : decode cX7_done 136 = .ok (.if_icmp .le 7, 3) := by decide +kernel
theorem dX7_done_139 : decode cX7_done 139 = .ok (.iconst 1, 1) := by decide +kernel
theorem dX7_done_140 : decode cX7_done 140 = .ok (.goto 4, 3) := by decide +kernel
theorem dX7_done_143 : decode cX7_done 143 = .ok (.iconst 0, 1) := by decide +kernel
theorem dX7_done_144 : decode cX7_done 144 = .ok (.ireturn, 1) := by decide +kernel
theorem dX7_done_145 : decode cX7_done 145 = .ok (.iload_n 1, 1) := by decide +kernel
theorem dX7_done_146 : decode cX7_done 146 = .ok (.iload_n 2, 1) := by decide +kernel
theorem dX7_done_147 : decode cX7_done 147 = .ok (.iadd, 1) := by decide +kernel
theorem dX7_done_148 : decode cX7_done 148 = .ok (.ireturn, 1) := by decide +kernel
theorem dX7_done_149 : decode cX7_done 149 = .ok (.iload_n 1, 1) := by decide +kernel
theorem dX7_done_150 : decode cX7_done 150 = .ok (.iload_n 2, 1) := by decide +kernel
theorem dX7_done_151 : decode cX7_done 151 = .ok (.isub, 1) := by decide +kernel
theorem dX7_done_152 : decode cX7_done 152 = .ok (.ireturn, 1) := by decide +kernel
theorem dX7_done_153 : decode cX7_done 153 = .ok (.iload_n 1, 1) := by decide +kernel
theorem dX7_done_154 : decode cX7_done 154 = .ok (.iload_n 2, 1) := by decide +kernel
theorem dX7_done_155 : decode cX7_done 155 = .ok (.imul, 1) := by decide +kernel
theorem dX7_done_156 : decode cX7_done 156 = .ok (.ireturn, 1) := by decide +kernel
theorem dX7_done_157 : decode cX7_done 157 = .ok (.iload_n 2, 1) := by decide +kernel
theorem dX7_done_158 : decode cX7_done 158 = .ok (.ifCond .ne 7, 3) := by decide +kernel
theorem dX7_done_161 : decode cX7_done 161 = .ok (.iconst 0, 1) := by decide +kernel
theorem dX7_done_162 : decode cX7_done 162 = .ok (.goto 6, 3) := by decide +kernel
theorem dX7_done_165 : decode cX7_done 165 = .ok (.iload_n 1, 1) := by decide +kernel
theorem dX7_done_166 : decode cX7_done 166 = .ok (.iload_n 2, 1) := by decide +kernel
theorem dX7_done_167 : decode cX7_done 167 = .ok (.idiv, 1) := by decide +kernel
theorem dX7_done_168 : decode cX7_done 168 = .ok (.ireturn, 1) := by decide +kernel
theorem dX7_done_169 : decode cX7_done 169 = .ok (.iload_n 2, 1) := by decide +kernel
theorem dX7_done_170 : decode cX7_done 170 = .ok (.ifCond .ne 7, 3) := by decide +kernel
theorem dX7_done_173 : decode cX7_done 173 = .ok (.iconst 0, 1) := by decide +kernel
theorem dX7_done_174 : decode cX7_done 174 = .ok (.goto 6, 3) := by decide +kernel
theorem dX7_done_177 : decode cX7_done 177 = .ok (.iload_n 1, 1) := by decide +kernel
theorem dX7_done_178 : decode cX7_done 178 = .ok (.iload_n 2, 1) := by decide +kernel
theorem dX7_done_179 : decode cX7_done 179 = .ok (.irem, 1) := by decide +kernel
theorem dX7_done_180 : decode cX7_done 180 = .ok (.ireturn, 1) := by decide +kernel
theorem dX7_worked_0 : decode cX7_worked 0 = .ok (.iconst 0, 1) := by decide +kernel
theorem dX7_worked_1 : decode cX7_worked 1 = .ok (.istore_n 3, 1) := by decide +kernel
theorem dX7_worked_2 : decode cX7_worked 2 = .ok (.iload_n 1, 1) := by decide +kernel
theorem dX7_worked_3 : decode cX7_worked 3 = .ok (.istore 4, 2) := by decide +kernel
theorem dX7_worked_5 : decode cX7_worked 5 = .ok (.iload 4, 2) := by decide +kernel
theorem dX7_worked_7 : decode cX7_worked 7 = .ok (.iload_n 1, 1) := by decide +kernel
theorem dX7_worked_8 : decode cX7_worked 8 = .ok (.iload_n 2, 1) := by decide +kernel
theorem dX7_worked_9 : decode cX7_worked 9 = .ok (.iadd, 1) := by decide +kernel
theorem dX7_worked_10 : decode cX7_worked 10 = .ok (.if_icmp .ge 131, 3) := by decide +kernel
theorem dX7_worked_13 : decode cX7_worked 13 = .ok (.aload_n 0, 1) := by decide +kernel
theorem dX7_worked_14 : decode cX7_worked 14 = .ok (.getfield 7, 3) := by decide +kernel
theorem dX7_worked_17 : decode cX7_worked 17 = .ok (.iload 4, 2) := by decide +kernel
theorem dX7_worked_19 : decode cX7_worked 19 = .ok (.iaload, 1) := by decide +kernel
theorem dX7_worked_20 : decode cX7_worked 20 = .ok (.istore 5, 2) := by decide +kernel
theorem dX7_worked_22 : decode cX7_worked 22 = .ok (.iload 5, 2) := by decide +kernel
theorem dX7_worked_24 : decode cX7_worked 24 = .ok (.sipush 20000, 3) := by decide +kernel
theorem dX7_worked_27 : decode cX7_worked 27 = .ok (.if_icmp .ge 39, 3) := by decide +kernel
theorem dX7_worked_30 : decode cX7_worked 30 = .ok (.aload_n 0, 1) := by decide +kernel
theorem dX7_worked_31 : decode cX7_worked 31 = .ok (.getfield 28, 3) := by decide +kernel
theorem dX7_worked_34 : decode cX7_worked 34 = .ok (.iload_n 3, 1) := by decide +kernel
theorem dX7_worked_35 : decode cX7_worked 35 = .ok (.iload 5, 2) := by decide +kernel
theorem dX7_worked_37 : decode cX7_worked 37 = .ok (.sipush 10000, 3) := by decide +kernel
theorem dX7_worked_40 : decode cX7_worked 40 = .ok (.if_icmp .ge 8, 3) := by decide +kernel
theorem dX7_worked_43 : decode cX7_worked 43 = .ok (.iload 5, 2) := by decide +kernel
theorem dX7_worked_45 : decode cX7_worked 45 = .ok (.goto 14, 3) := by decide +kernel
theorem dX7_worked_48 : decode cX7_worked 48 = .ok (.aload_n 0, 1) := by decide +kernel
theorem dX7_worked_49 : decode cX7_worked 49 = .ok (.getfield 22, 3) := by decide +kernel
theorem dX7_worked_52 : decode cX7_worked 52 = .ok (.iload 5, 2) := by decide +kernel
theorem dX7_worked_54 : decode cX7_worked 54 = .ok (.sipush 10000, 3) := by decide +kernel
theorem dX7_worked_57 : decode cX7_worked 57 = .ok (.isub, 1) := by decide +kernel
theorem dX7_worked_58 : decode cX7_worked 58 = .ok (.iaload, 1) := by decide +kernel
theorem dX7_worked_59 : decode cX7_worked 59 = .ok (.iastore, 1) := by decide +kernel
theorem dX7_worked_60 : decode cX7_worked 60 = .ok (.iinc 3 1, 3) := by decide +kernel
theorem dX7_worked_63 : decode cX7_worked 63 = .ok (.goto 72, 3) := by decide +kernel
theorem dX7_worked_66 : decode cX7_worked 66 = .ok (.iload 5, 2) := by decide +kernel
theorem dX7_worked_68 : decode cX7_worked 68 = .ok (.sipush 20033, 3) := by decide +kernel
theorem dX7_worked_71 : decode cX7_worked 71 = .ok (.if_icmp .ne 30, 3) := by decide +kernel
theorem dX7_worked_74 : decode cX7_worked 74 = .ok (.aload_n 0, 1) := by decide +kernel
theorem dX7_worked_75 : decode cX7_worked 75 = .ok (.getfield 28, 3) := by decide +kernel
theorem dX7_worked_78 : decode cX7_worked 78 = .ok (.iload_n 3, 1) := by decide +kernel
theorem dX7_worked_79 : decode cX7_worked 79 = .ok (.iconst 1, 1) := by decide +kernel
theorem dX7_worked_80 : decode cX7_worked 80 = .ok (.isub, 1) := by decide +kernel
theorem dX7_worked_81 : decode cX7_worked 81 = .ok (.aload_n 0, 1) := by decide +kernel
theorem dX7_worked_82 : decode cX7_worked 82 = .ok (.getfield 28, 3) := by decide +kernel
theorem dX7_worked_85 : decode cX7_worked 85 = .ok (.iload_n 3, 1) := by decide +kernel
theorem dX7_worked_86 : decode cX7_worked 86 = .ok (.iconst 1, 1) := by decide +kernel
theorem dX7_worked_87 : decode cX7_worked 87 = .ok (.isub, 1) := by decide +kernel
theorem dX7_worked_88 : decode cX7_worked 88 = .ok (.iaload, 1) := by decide +kernel
theorem dX7_worked_89 : decode cX7_worked 89 = .ok (.ifCond .ne 7, 3) := by decide +kernel
theorem dX7_worked_92 : decode cX7_worked 92 = .ok (.iconst 1, 1) := by decide +kernel
theorem dX7_worked_93 : decode cX7_worked 93 = .ok (.goto 4, 3) := by decide +kernel
theorem dX7_worked_96 : decode cX7_worked 96 = .ok (.iconst 0, 1) := by decide +kernel
theorem dX7_worked_97 : decode cX7_worked 97 = .ok (.iastore, 1) := by decide +kernel
theorem dX7_worked_98 : decode cX7_worked 98 = .ok (.goto 37, 3) := by decide +kernel
theorem dX7_worked_101 : decode cX7_worked 101 = .ok (.iinc 3 (-1), 3) := by decide +kernel
theorem dX7_worked_104 : decode cX7_worked 104 = .ok (.aload_n 0, 1) := by decide +kernel
theorem dX7_worked_105 : decode cX7_worked 105 = .ok (.getfield 28, 3) := by decide +kernel
theorem dX7_worked_108 : decode cX7_worked 108 = .ok (.iload_n 3, 1) := by decide +kernel
theorem dX7_worked_109 : decode cX7_worked 109 = .ok (.iconst 1, 1) := by decide +kernel
theorem dX7_worked_110 : decode cX7_worked 110 = .ok (.isub, 1) := by decide +kernel
theorem dX7_worked_111 : decode cX7_worked 111 = .ok (.iload 5, 2) := by decide +kernel
theorem dX7_worked_113 : decode cX7_worked 113 = .ok (.sipush 20000, 3) := by decide +kernel
theorem dX7_worked_116 : decode cX7_worked 116 = .ok (.isub, 1) := by decide +kernel
theorem dX7_worked_117 : decode cX7_worked 117 = .ok (.aload_n 0, 1) := by decide +kernel
theorem dX7_worked_118 : decode cX7_worked 118 = .ok (.getfield 28, 3) := by decide +kernel
theorem dX7_worked_121 : decode cX7_worked 121 = .ok (.iload_n 3, 1) := by decide +kernel
theorem dX7_worked_122 : decode cX7_worked 122 = .ok (.iconst 1, 1) := by decide +kernel
theorem dX7_worked_123 : decode cX7_worked 123 = .ok (.isub, 1) := by decide +kernel
theorem dX7_worked_124 : decode cX7_worked 124 = .ok (.iaload, 1) := by decide +kernel
theorem dX7_worked_125 : decode cX7_worked 125 = .ok (.aload_n 0, 1) := by decide +kernel
theorem dX7_worked_126 : decode cX7_worked 126 = .ok (.getfield 28, 3) := by decide +kernel
theorem dX7_worked_129 : decode cX7_worked 129 = .ok (.iload_n 3, 1) := by decide +kernel
theorem dX7_worked_130 : decode cX7_worked 130 = .ok (.iaload, 1) := by decide +kernel
theorem dX7_worked_131 : decode cX7_worked 131 = .ok (.invokestatic 124, 3) := by decide +kernel
theorem dX7_worked_134 : decode cX7_worked 134 = .ok (.iastore, 1) := by decide +kernel
theorem dX7_worked_135 : decode cX7_worked 135 = .ok (.iinc 4 1, 3) := by decide +kernel
theorem dX7_worked_138 : decode cX7_worked 138 = .ok (.goto (-133), 3) := by decide +kernel
theorem dX7_worked_141 : decode cX7_worked 141 = .ok (.aload_n 0, 1) := by decide +kernel
theorem dX7_worked_142 : decode cX7_worked 142 = .ok (.getfield 28, 3) := by decide +kernel
theorem dX7_worked_145 : decode cX7_worked 145 = .ok (.iconst 0, 1) := by decide +kernel
theorem dX7_worked_146 : decode cX7_worked 146 = .ok (.iaload, 1) := by decide +kernel
theorem dX7_worked_147 : decode cX7_worked 147 = .ok (.ireturn, 1) := by decide +kernel
theorem dX7_feed_0 : decode cX7_feed 0 = .ok (.iload_n 3, 1) := by decide +kernel
theorem dX7_feed_1 : decode cX7_feed 1 = .ok (.i2l, 1) := by decide +kernel
theorem dX7_feed_2 : decode cX7_feed 2 = .ok (.lconst 1, 1) := by decide +kernel
theorem dX7_feed_3 : decode cX7_feed 3 = .ok (.ldc2_w 128, 3) := by decide +kernel
theorem dX7_feed_6 : decode cX7_feed 6 = .ok (.invokestatic 53, 3) := by decide +kernel
theorem dX7_feed_9 : decode cX7_feed 9 = .ok (.ifCond .ne 9, 3) := by decide +kernel
theorem dX7_feed_12 : decode cX7_feed 12 = .ok (.aload_n 0, 1) := by decide +kernel
theorem dX7_feed_13 : decode cX7_feed 13 = .ok (.iconst 1, 1) := by decide +kernel
theorem dX7_feed_14 : decode cX7_feed 14 = .ok (.invokevirtual 130, 3) := by decide +kernel
theorem dX7_feed_17 : decode cX7_feed 17 = .ok (.ireturn, 1) := by decide +kernel
theorem dX7_feed_18 : decode cX7_feed 18 = .ok (.aload_n 0, 1) := by decide +kernel
theorem dX7_feed_19 : decode cX7_feed 19 = .ok (.getfield 7, 3) := by decide +kernel
theorem dX7_feed_22 : decode cX7_feed 22 = .ok (.bipush 8, 2) := by decide +kernel
theorem dX7_feed_24 : decode cX7_feed 24 = .ok (.iaload, 1) := by decide +kernel
theorem dX7_feed_25 : decode cX7_feed 25 = .ok (.iload_n 3, 1) := by decide +kernel
theorem dX7_feed_26 : decode cX7_feed 26 = .ok (.iadd, 1) := by decide +kernel
theorem dX7_feed_27 : decode cX7_feed 27 = .ok (.bipush 50, 2) := by decide +kernel
theorem dX7_feed_29 : decode cX7_feed 29 = .ok (.if_icmp .le 9, 3) := by decide +kernel
theorem dX7_feed_32 : decode cX7_feed 32 = .ok (.aload_n 0, 1) := by decide +kernel
theorem dX7_feed_33 : decode cX7_feed 33 = .ok (.iconst 4, 1) := by decide +kernel
theorem dX7_feed_34 : decode cX7_feed 34 = .ok (.invokevirtual 130, 3) := by decide +kernel
theorem dX7_feed_37 : decode cX7_feed 37 = .ok (.ireturn, 1) := by decide +kernel
theorem dX7_feed_38 : decode cX7_feed 38 = .ok (.iconst 0, 1) := by decide +kernel
theorem dX7_feed_39 : decode cX7_feed 39 = .ok (.istore 4, 2) := by decide +kernel
theorem dX7_feed_41 : decode cX7_feed 41 = .ok (.iload 4, 2) := by decide +kernel
theorem dX7_feed_43 : decode cX7_feed 43 = .ok (.iload_n 3, 1) := by decide +kernel
theorem dX7_feed_44 : decode cX7_feed 44 = .ok (.if_icmp .ge 48, 3) := by decide +kernel
theorem dX7_feed_47 : decode cX7_feed 47 = .ok (.aload_n 0, 1) := by decide +kernel
theorem dX7_feed_48 : decode cX7_feed 48 = .ok (.getfield 7, 3) := by decide +kernel
theorem dX7_feed_51 : decode cX7_feed 51 = .ok (.sipush 198, 3) := by decide +kernel
theorem dX7_feed_54 : decode cX7_feed 54 = .ok (.aload_n 0, 1) := by decide +kernel
theorem dX7_feed_55 : decode cX7_feed 55 = .ok (.getfield 7, 3) := by decide +kernel
theorem dX7_feed_58 : decode cX7_feed 58 = .ok (.bipush 8, 2) := by decide +kernel
theorem dX7_feed_60 : decode cX7_feed 60 = .ok (.iaload, 1) := by decide +kernel
theorem dX7_feed_61 : decode cX7_feed 61 = .ok (.iadd, 1) := by decide +kernel
theorem dX7_feed_62 : decode cX7_feed 62 = .ok (.lload_n 1, 1) := by decide +kernel
theorem dX7_feed_63 : decode cX7_feed 63 = .ok (.bipush 8, 2) := by decide +kernel
theorem dX7_feed_65 : decode cX7_feed 65 = .ok (.iload 4, 2) := by decide +kernel
theorem dX7_feed_67 : decode cX7_feed 67 = .ok (.imul, 1) := by decide +kernel
theorem dX7_feed_68 : decode cX7_feed 68 = .ok (.lshr, 1) := by decide +kernel
theorem dX7_feed_69 : decode cX7_feed 69 = .ok (.ldc2_w 133, 3) := by decide +kernel
theorem dX7_feed_72 : decode cX7_feed 72 = .ok (.land, 1) := by decide +kernel
theorem dX7_feed_73 : decode cX7_feed 73 = .ok (.l2i, 1) := by decide +kernel
theorem dX7_feed_74 : decode cX7_feed 74 = .ok (.iastore, 1) := by decide +kernel
theorem dX7_feed_75 : decode cX7_feed 75 = .ok (.aload_n 0, 1) := by decide +kernel
theorem dX7_feed_76 : decode cX7_feed 76 = .ok (.getfield 7, 3) := by decide +kernel
theorem dX7_feed_79 : decode cX7_feed 79 = .ok (.bipush 8, 2) := by decide +kernel
theorem dX7_feed_81 : decode cX7_feed 81 = .ok (.dup2, 1) := by decide +kernel
theorem dX7_feed_82 : decode cX7_feed 82 = .ok (.iaload, 1) := by decide +kernel
theorem dX7_feed_83 : decode cX7_feed 83 = .ok (.iconst 1, 1) := by decide +kernel
theorem dX7_feed_84 : decode cX7_feed 84 = .ok (.iadd, 1) := by decide +kernel
theorem dX7_feed_85 : decode cX7_feed 85 = .ok (.iastore, 1) := by decide +kernel
theorem dX7_feed_86 : decode cX7_feed 86 = .ok (.iinc 4 1, 3) := by decide +kernel
theorem dX7_feed_89 : decode cX7_feed 89 = .ok (.goto (-48), 3) := by decide +kernel
theorem dX7_feed_92 : decode cX7_feed 92 = .ok (.aload_n 0, 1) := by decide +kernel
theorem dX7_feed_93 : decode cX7_feed 93 = .ok (.getfield 7, 3) := by decide +kernel
theorem dX7_feed_96 : decode cX7_feed 96 = .ok (.bipush 8, 2) := by decide +kernel
theorem dX7_feed_98 : decode cX7_feed 98 = .ok (.iaload, 1) := by decide +kernel
theorem dX7_feed_99 : decode cX7_feed 99 = .ok (.ireturn, 1) := by decide +kernel
theorem dX7_text_0 : decode cX7_text 0 = .ok (.iload_n 1, 1) := by decide +kernel
theorem dX7_text_1 : decode cX7_text 1 = .ok (.i2l, 1) := by decide +kernel
theorem dX7_text_2 : decode cX7_text 2 = .ok (.lconst 0, 1) := by decide +kernel
theorem dX7_text_3 : decode cX7_text 3 = .ok (.lconst 1, 1) := by decide +kernel
theorem dX7_text_4 : decode cX7_text 4 = .ok (.invokestatic 53, 3) := by decide +kernel
theorem dX7_text_7 : decode cX7_text 7 = .ok (.ifCond .ne 9, 3) := by decide +kernel
theorem dX7_text_10 : decode cX7_text 10 = .ok (.aload_n 0, 1) := by decide +kernel
theorem dX7_text_11 : decode cX7_text 11 = .ok (.iconst 1, 1) := by decide +kernel
theorem dX7_text_12 : decode cX7_text 12 = .ok (.invokevirtual 130, 3) := by decide +kernel
theorem dX7_text_15 : decode cX7_text 15 = .ok (.ireturn, 1) := by decide +kernel
theorem dX7_text_16 : decode cX7_text 16 = .ok (.aload_n 0, 1) := by decide +kernel
theorem dX7_text_17 : decode cX7_text 17 = .ok (.getfield 7, 3) := by decide +kernel
theorem dX7_text_20 : decode cX7_text 20 = .ok (.bipush 8, 2) := by decide +kernel
theorem dX7_text_22 : decode cX7_text 22 = .ok (.iaload, 1) := by decide +kernel
theorem dX7_text_23 : decode cX7_text 23 = .ok (.istore_n 2, 1) := by decide +kernel
theorem dX7_text_24 : decode cX7_text 24 = .ok (.aload_n 0, 1) := by decide +kernel
theorem dX7_text_25 : decode cX7_text 25 = .ok (.getfield 7, 3) := by decide +kernel
theorem dX7_text_28 : decode cX7_text 28 = .ok (.bipush 8, 2) := by decide +kernel
theorem dX7_text_30 : decode cX7_text 30 = .ok (.iconst 0, 1) := by decide +kernel
theorem dX7_text_31 : decode cX7_text 31 = .ok (.iastore, 1) := by decide +kernel
theorem dX7_text_32 : decode cX7_text 32 = .ok (.aload_n 0, 1) := by decide +kernel
theorem dX7_text_33 : decode cX7_text 33 = .ok (.sipush 198, 3) := by decide +kernel
theorem dX7_text_36 : decode cX7_text 36 = .ok (.iload_n 2, 1) := by decide +kernel
theorem dX7_text_37 : decode cX7_text 37 = .ok (.iload_n 1, 1) := by decide +kernel
theorem dX7_text_38 : decode cX7_text 38 = .ok (.invokevirtual 135, 3) := by decide +kernel
theorem dX7_text_41 : decode cX7_text 41 = .ok (.aload_n 0, 1) := by decide +kernel
theorem dX7_text_42 : decode cX7_text 42 = .ok (.getfield 64, 3) := by decide +kernel
theorem dX7_text_45 : decode cX7_text 45 = .ok (.ifCond .lt 11, 3) := by decide +kernel
theorem dX7_text_48 : decode cX7_text 48 = .ok (.bipush (-10), 2) := by decide +kernel
theorem dX7_text_50 : decode cX7_text 50 = .ok (.aload_n 0, 1) := by decide +kernel
theorem dX7_text_51 : decode cX7_text 51 = .ok (.getfield 64, 3) := by decide +kernel
theorem dX7_text_54 : decode cX7_text 54 = .ok (.isub, 1) := by decide +kernel
theorem dX7_text_55 : decode cX7_text 55 = .ok (.ireturn, 1) := by decide +kernel
theorem dX7_text_56 : decode cX7_text 56 = .ok (.aload_n 0, 1) := by decide +kernel
theorem dX7_text_57 : decode cX7_text 57 = .ok (.getfield 7, 3) := by decide +kernel
theorem dX7_text_60 : decode cX7_text 60 = .ok (.bipush 76, 2) := by decide +kernel
theorem dX7_text_62 : decode cX7_text 62 = .ok (.iload_n 1, 1) := by decide +kernel
theorem dX7_text_63 : decode cX7_text 63 = .ok (.iadd, 1) := by decide +kernel
theorem dX7_text_64 : decode cX7_text 64 = .ok (.aload_n 0, 1) := by decide +kernel
theorem dX7_text_65 : decode cX7_text 65 = .ok (.getfield 78, 3) := by decide +kernel
theorem dX7_text_68 : decode cX7_text 68 = .ok (.iastore, 1) := by decide +kernel
theorem dX7_text_69 : decode cX7_text 69 = .ok (.iconst 0, 1) := by decide +kernel
theorem dX7_text_70 : decode cX7_text 70 = .ok (.istore_n 3, 1) := by decide +kernel
theorem dX7_text_71 : decode cX7_text 71 = .ok (.iload_n 3, 1) := by decide +kernel
theorem dX7_text_72 : decode cX7_text 72 = .ok (.aload_n 0, 1) := by decide +kernel
theorem dX7_text_73 : decode cX7_text 73 = .ok (.getfield 78, 3) := by decide +kernel
theorem dX7_text_76 : decode cX7_text 76 = .ok (.if_icmp .ge 29, 3) := by decide +kernel
theorem dX7_text_79 : decode cX7_text 79 = .ok (.aload_n 0, 1) := by decide +kernel
theorem dX7_text_80 : decode cX7_text 80 = .ok (.getfield 7, 3) := by decide +kernel
theorem dX7_text_83 : decode cX7_text 83 = .ok (.bipush 98, 2) := by decide +kernel
theorem dX7_text_85 : decode cX7_text 85 = .ok (.bipush 50, 2) := by decide +kernel
theorem dX7_text_87 : decode cX7_text 87 = .ok (.iload_n 1, 1) := by decide +kernel
theorem dX7_text_88 : decode cX7_text 88 = .ok (.imul, 1) := by decide +kernel
theorem dX7_text_89 : decode cX7_text 89 = .ok (.iadd, 1) := by decide +kernel
theorem dX7_text_90 : decode cX7_text 90 = .ok (.iload_n 3, 1) := by decide +kernel
theorem dX7_text_91 : decode cX7_text 91 = .ok (.iadd, 1) := by decide +kernel
theorem dX7_text_92 : decode cX7_text 92 = .ok (.aload_n 0, 1) := by decide +kernel
theorem dX7_text_93 : decode cX7_text 93 = .ok (.getfield 25, 3) := by decide +kernel
theorem dX7_text_96 : decode cX7_text 96 = .ok (.iload_n 3, 1) := by decide +kernel
theorem dX7_text_97 : decode cX7_text 97 = .ok (.iaload, 1) := by decide +kernel
theorem dX7_text_98 : decode cX7_text 98 = .ok (.iastore, 1) := by decide +kernel
theorem dX7_text_99 : decode cX7_text 99 = .ok (.iinc 3 1, 3) := by decide +kernel
theorem dX7_text_102 : decode cX7_text 102 = .ok (.goto (-31), 3) := by decide +kernel
theorem dX7_text_105 : decode cX7_text 105 = .ok (.iconst 1, 1) := by decide +kernel
theorem dX7_text_106 : decode cX7_text 106 = .ok (.ireturn, 1) := by decide +kernel
theorem dX7_textGives_0 : decode cX7_textGives 0 = .ok (.iload_n 1, 1) := by decide +kernel
theorem dX7_textGives_1 : decode cX7_textGives 1 = .ok (.ifCond .ne 11, 3) := by decide +kernel
theorem dX7_textGives_4 : decode cX7_textGives 4 = .ok (.iload_n 2, 1) := by decide +kernel
theorem dX7_textGives_5 : decode cX7_textGives 5 = .ok (.iload_n 3, 1) := by decide +kernel
theorem dX7_textGives_6 : decode cX7_textGives 6 = .ok (.imul, 1) := by decide +kernel
theorem dX7_textGives_7 : decode cX7_textGives 7 = .ok (.iconst 2, 1) := by decide +kernel
theorem dX7_textGives_8 : decode cX7_textGives 8 = .ok (.idiv, 1) := by decide +kernel
theorem dX7_textGives_9 : decode cX7_textGives 9 = .ok (.goto 4, 3) := by decide +kernel
theorem dX7_textGives_12 : decode cX7_textGives 12 = .ok (.iload_n 3, 1) := by decide +kernel
theorem dX7_textGives_13 : decode cX7_textGives 13 = .ok (.istore 5, 2) := by decide +kernel
theorem dX7_textGives_15 : decode cX7_textGives 15 = .ok (.aload_n 0, 1) := by decide +kernel
theorem dX7_textGives_16 : decode cX7_textGives 16 = .ok (.getfield 7, 3) := by decide +kernel
theorem dX7_textGives_19 : decode cX7_textGives 19 = .ok (.bipush 76, 2) := by decide +kernel
theorem dX7_textGives_21 : decode cX7_textGives 21 = .ok (.iload_n 1, 1) := by decide +kernel
theorem dX7_textGives_22 : decode cX7_textGives 22 = .ok (.iadd, 1) := by decide +kernel
theorem dX7_textGives_23 : decode cX7_textGives 23 = .ok (.iaload, 1) := by decide +kernel
theorem dX7_textGives_24 : decode cX7_textGives 24 = .ok (.ifCond .le 47, 3) := by decide +kernel
theorem dX7_textGives_27 : decode cX7_textGives 27 = .ok (.aload_n 0, 1) := by decide +kernel
theorem dX7_textGives_28 : decode cX7_textGives 28 = .ok (.getfield 22, 3) := by decide +kernel
theorem dX7_textGives_31 : decode cX7_textGives 31 = .ok (.iconst 0, 1) := by decide +kernel
theorem dX7_textGives_32 : decode cX7_textGives 32 = .ok (.iload_n 2, 1) := by decide +kernel
theorem dX7_textGives_33 : decode cX7_textGives 33 = .ok (.iastore, 1) := by decide +kernel
theorem dX7_textGives_34 : decode cX7_textGives 34 = .ok (.aload_n 0, 1) := by decide +kernel
theorem dX7_textGives_35 : decode cX7_textGives 35 = .ok (.getfield 22, 3) := by decide +kernel
theorem dX7_textGives_38 : decode cX7_textGives 38 = .ok (.iconst 1, 1) := by decide +kernel
theorem dX7_textGives_39 : decode cX7_textGives 39 = .ok (.iload_n 3, 1) := by decide +kernel
theorem dX7_textGives_40 : decode cX7_textGives 40 = .ok (.iastore, 1) := by decide +kernel
theorem dX7_textGives_41 : decode cX7_textGives 41 = .ok (.aload_n 0, 1) := by decide +kernel
theorem dX7_textGives_42 : decode cX7_textGives 42 = .ok (.getfield 22, 3) := by decide +kernel
theorem dX7_textGives_45 : decode cX7_textGives 45 = .ok (.iconst 2, 1) := by decide +kernel
theorem dX7_textGives_46 : decode cX7_textGives 46 = .ok (.iload 4, 2) := by decide +kernel
theorem dX7_textGives_48 : decode cX7_textGives 48 = .ok (.iastore, 1) := by decide +kernel
theorem dX7_textGives_49 : decode cX7_textGives 49 = .ok (.aload_n 0, 1) := by decide +kernel
theorem dX7_textGives_50 : decode cX7_textGives 50 = .ok (.bipush 98, 2) := by decide +kernel
theorem dX7_textGives_52 : decode cX7_textGives 52 = .ok (.bipush 50, 2) := by decide +kernel
theorem dX7_textGives_54 : decode cX7_textGives 54 = .ok (.iload_n 1, 1) := by decide +kernel
theorem dX7_textGives_55 : decode cX7_textGives 55 = .ok (.imul, 1) := by decide +kernel
theorem dX7_textGives_56 : decode cX7_textGives 56 = .ok (.iadd, 1) := by decide +kernel
theorem dX7_textGives_57 : decode cX7_textGives 57 = .ok (.aload_n 0, 1) := by decide +kernel
theorem dX7_textGives_58 : decode cX7_textGives 58 = .ok (.getfield 7, 3) := by decide +kernel
theorem dX7_textGives_61 : decode cX7_textGives 61 = .ok (.bipush 76, 2) := by decide +kernel
theorem dX7_textGives_63 : decode cX7_textGives 63 = .ok (.iload_n 1, 1) := by decide +kernel
theorem dX7_textGives_64 : decode cX7_textGives 64 = .ok (.iadd, 1) := by decide +kernel
theorem dX7_textGives_65 : decode cX7_textGives 65 = .ok (.iaload, 1) := by decide +kernel
theorem dX7_textGives_66 : decode cX7_textGives 66 = .ok (.invokevirtual 139, 3) := by decide +kernel
theorem dX7_textGives_69 : decode cX7_textGives 69 = .ok (.istore 5, 2) := by decide +kernel
theorem dX7_textGives_71 : decode cX7_textGives 71 = .ok (.iload 5, 2) := by decide +kernel
theorem dX7_textGives_73 : decode cX7_textGives 73 = .ok (.iconst 0, 1) := by decide +kernel
theorem dX7_textGives_74 : decode cX7_textGives 74 = .ok (.bipush 99, 2) := by decide +kernel
theorem dX7_textGives_76 : decode cX7_textGives 76 = .ok (.invokestatic 143, 3) := by decide +kernel
theorem dX7_textGives_79 : decode cX7_textGives 79 = .ok (.ireturn, 1) := by decide +kernel
theorem dX7_law_0 : decode cX7_law 0 = .ok (.iload_n 1, 1) := by decide +kernel
theorem dX7_law_1 : decode cX7_law 1 = .ok (.i2l, 1) := by decide +kernel
theorem dX7_law_2 : decode cX7_law 2 = .ok (.lconst 0, 1) := by decide +kernel
theorem dX7_law_3 : decode cX7_law 3 = .ok (.lconst 1, 1) := by decide +kernel
theorem dX7_law_4 : decode cX7_law 4 = .ok (.invokestatic 53, 3) := by decide +kernel
theorem dX7_law_7 : decode cX7_law 7 = .ok (.ifCond .eq 15, 3) := by decide +kernel
theorem dX7_law_10 : decode cX7_law 10 = .ok (.aload_n 0, 1) := by decide +kernel
theorem dX7_law_11 : decode cX7_law 11 = .ok (.iload_n 1, 1) := by decide +kernel
theorem dX7_law_12 : decode cX7_law 12 = .ok (.iload_n 2, 1) := by decide +kernel
theorem dX7_law_13 : decode cX7_law 13 = .ok (.iload_n 3, 1) := by decide +kernel
theorem dX7_law_14 : decode cX7_law 14 = .ok (.iload 4, 2) := by decide +kernel
theorem dX7_law_16 : decode cX7_law 16 = .ok (.invokevirtual 146, 3) := by decide +kernel
theorem dX7_law_19 : decode cX7_law 19 = .ok (.goto 8, 3) := by decide +kernel
theorem dX7_law_22 : decode cX7_law 22 = .ok (.aload_n 0, 1) := by decide +kernel
theorem dX7_law_23 : decode cX7_law 23 = .ok (.iconst 1, 1) := by decide +kernel
theorem dX7_law_24 : decode cX7_law 24 = .ok (.invokevirtual 130, 3) := by decide +kernel
theorem dX7_law_27 : decode cX7_law 27 = .ok (.ireturn, 1) := by decide +kernel
theorem dX7_isDead_0 : decode cX7_isDead 0 = .ok (.aload_n 0, 1) := by decide +kernel
theorem dX7_isDead_1 : decode cX7_isDead 1 = .ok (.iload_n 1, 1) := by decide +kernel
theorem dX7_isDead_2 : decode cX7_isDead 2 = .ok (.iconst 5, 1) := by decide +kernel
theorem dX7_isDead_3 : decode cX7_isDead 3 = .ok (.invokevirtual 150, 3) := by decide +kernel
theorem dX7_isDead_6 : decode cX7_isDead 6 = .ok (.ifCond .ne 7, 3) := by decide +kernel
theorem dX7_isDead_9 : decode cX7_isDead 9 = .ok (.iconst 1, 1) := by decide +kernel
theorem dX7_isDead_10 : decode cX7_isDead 10 = .ok (.goto 4, 3) := by decide +kernel
theorem dX7_isDead_13 : decode cX7_isDead 13 = .ok (.iconst 0, 1) := by decide +kernel
theorem dX7_isDead_14 : decode cX7_isDead 14 = .ok (.ireturn, 1) := by decide +kernel
theorem dX7_isWilling_0 : decode cX7_isWilling 0 = .ok (.aload_n 0, 1) := by decide +kernel
theorem dX7_isWilling_1 : decode cX7_isWilling 1 = .ok (.iload_n 1, 1) := by decide +kernel
theorem dX7_isWilling_2 : decode cX7_isWilling 2 = .ok (.iconst 0, 1) := by decide +kernel
theorem dX7_isWilling_3 : decode cX7_isWilling 3 = .ok (.invokevirtual 150, 3) := by decide +kernel
theorem dX7_isWilling_6 : decode cX7_isWilling 6 = .ok (.istore_n 2, 1) := by decide +kernel
theorem dX7_isWilling_7 : decode cX7_isWilling 7 = .ok (.iload_n 2, 1) := by decide +kernel
theorem dX7_isWilling_8 : decode cX7_isWilling 8 = .ok (.ifCond .eq 13, 3) := by decide +kernel
theorem dX7_isWilling_11 : decode cX7_isWilling 11 = .ok (.iload_n 2, 1) := by decide +kernel
theorem dX7_isWilling_12 : decode cX7_isWilling 12 = .ok (.iconst 1, 1) := by decide +kernel
theorem dX7_isWilling_13 : decode cX7_isWilling 13 = .ok (.if_icmp .eq 8, 3) := by decide +kernel
theorem dX7_isWilling_16 : decode cX7_isWilling 16 = .ok (.iload_n 2, 1) := by decide +kernel
theorem dX7_isWilling_17 : decode cX7_isWilling 17 = .ok (.iconst 4, 1) := by decide +kernel
theorem dX7_isWilling_18 : decode cX7_isWilling 18 = .ok (.if_icmp .ne 7, 3) := by decide +kernel
theorem dX7_isWilling_21 : decode cX7_isWilling 21 = .ok (.iconst 1, 1) := by decide +kernel
theorem dX7_isWilling_22 : decode cX7_isWilling 22 = .ok (.goto 4, 3) := by decide +kernel
theorem dX7_isWilling_25 : decode cX7_isWilling 25 = .ok (.iconst 0, 1) := by decide +kernel
theorem dX7_isWilling_26 : decode cX7_isWilling 26 = .ok (.istore_n 3, 1) := by decide +kernel
theorem dX7_isWilling_27 : decode cX7_isWilling 27 = .ok (.iload_n 3, 1) := by decide +kernel
theorem dX7_isWilling_28 : decode cX7_isWilling 28 = .ok (.ifCond .eq 22, 3) := by decide +kernel
theorem dX7_isWilling_31 : decode cX7_isWilling 31 = .ok (.aload_n 0, 1) := by decide +kernel
theorem dX7_isWilling_32 : decode cX7_isWilling 32 = .ok (.iload_n 1, 1) := by decide +kernel
theorem dX7_isWilling_33 : decode cX7_isWilling 33 = .ok (.iconst 5, 1) := by decide +kernel
theorem dX7_isWilling_34 : decode cX7_isWilling 34 = .ok (.invokevirtual 150, 3) := by decide +kernel
theorem dX7_isWilling_37 : decode cX7_isWilling 37 = .ok (.bipush 30, 2) := by decide +kernel
theorem dX7_isWilling_39 : decode cX7_isWilling 39 = .ok (.if_icmp .lt 7, 3) := by decide +kernel
theorem dX7_isWilling_42 : decode cX7_isWilling 42 = .ok (.iconst 1, 1) := by decide +kernel
theorem dX7_isWilling_43 : decode cX7_isWilling 43 = .ok (.goto 20, 3) := by decide +kernel
theorem dX7_isWilling_46 : decode cX7_isWilling 46 = .ok (.iconst 0, 1) := by decide +kernel
theorem dX7_isWilling_47 : decode cX7_isWilling 47 = .ok (.goto 16, 3) := by decide +kernel
theorem dX7_isWilling_50 : decode cX7_isWilling 50 = .ok (.aload_n 0, 1) := by decide +kernel
theorem dX7_isWilling_51 : decode cX7_isWilling 51 = .ok (.iload_n 1, 1) := by decide +kernel
theorem dX7_isWilling_52 : decode cX7_isWilling 52 = .ok (.invokevirtual 153, 3) := by decide +kernel
theorem dX7_isWilling_55 : decode cX7_isWilling 55 = .ok (.ifCond .ne 7, 3) := by decide +kernel
theorem dX7_isWilling_58 : decode cX7_isWilling 58 = .ok (.iconst 1, 1) := by decide +kernel
theorem dX7_isWilling_59 : decode cX7_isWilling 59 = .ok (.goto 4, 3) := by decide +kernel
theorem dX7_isWilling_62 : decode cX7_isWilling 62 = .ok (.iconst 0, 1) := by decide +kernel
theorem dX7_isWilling_63 : decode cX7_isWilling 63 = .ok (.ireturn, 1) := by decide +kernel
theorem dX7_cutsOne_0 : decode cX7_cutsOne 0 = .ok (.aload_n 0, 1) := by decide +kernel
theorem dX7_cutsOne_1 : decode cX7_cutsOne 1 = .ok (.iload_n 1, 1) := by decide +kernel
theorem dX7_cutsOne_2 : decode cX7_cutsOne 2 = .ok (.iconst 2, 1) := by decide +kernel
theorem dX7_cutsOne_3 : decode cX7_cutsOne 3 = .ok (.invokevirtual 150, 3) := by decide +kernel
theorem dX7_cutsOne_6 : decode cX7_cutsOne 6 = .ok (.aload_n 0, 1) := by decide +kernel
theorem dX7_cutsOne_7 : decode cX7_cutsOne 7 = .ok (.getfield 156, 3) := by decide +kernel
theorem dX7_cutsOne_10 : decode cX7_cutsOne 10 = .ok (.if_icmp .le 7, 3) := by decide +kernel
theorem dX7_cutsOne_13 : decode cX7_cutsOne 13 = .ok (.iconst 1, 1) := by decide +kernel
theorem dX7_cutsOne_14 : decode cX7_cutsOne 14 = .ok (.goto 4, 3) := by decide +kernel
theorem dX7_cutsOne_17 : decode cX7_cutsOne 17 = .ok (.iconst 0, 1) := by decide +kernel
theorem dX7_cutsOne_18 : decode cX7_cutsOne 18 = .ok (.istore_n 3, 1) := by decide +kernel
theorem dX7_cutsOne_19 : decode cX7_cutsOne 19 = .ok (.aload_n 0, 1) := by decide +kernel
theorem dX7_cutsOne_20 : decode cX7_cutsOne 20 = .ok (.iload_n 1, 1) := by decide +kernel
theorem dX7_cutsOne_21 : decode cX7_cutsOne 21 = .ok (.iconst 3, 1) := by decide +kernel
theorem dX7_cutsOne_22 : decode cX7_cutsOne 22 = .ok (.invokevirtual 150, 3) := by decide +kernel
theorem dX7_cutsOne_25 : decode cX7_cutsOne 25 = .ok (.aload_n 0, 1) := by decide +kernel
theorem dX7_cutsOne_26 : decode cX7_cutsOne 26 = .ok (.getfield 159, 3) := by decide +kernel
theorem dX7_cutsOne_29 : decode cX7_cutsOne 29 = .ok (.if_icmp .le 7, 3) := by decide +kernel
theorem dX7_cutsOne_32 : decode cX7_cutsOne 32 = .ok (.iconst 1, 1) := by decide +kernel
theorem dX7_cutsOne_33 : decode cX7_cutsOne 33 = .ok (.goto 4, 3) := by decide +kernel
theorem dX7_cutsOne_36 : decode cX7_cutsOne 36 = .ok (.iconst 0, 1) := by decide +kernel
theorem dX7_cutsOne_37 : decode cX7_cutsOne 37 = .ok (.istore 4, 2) := by decide +kernel
theorem dX7_cutsOne_39 : decode cX7_cutsOne 39 = .ok (.iload 4, 2) := by decide +kernel
theorem dX7_cutsOne_41 : decode cX7_cutsOne 41 = .ok (.ifCond .eq 15, 3) := by decide +kernel
theorem dX7_cutsOne_44 : decode cX7_cutsOne 44 = .ok (.iload_n 2, 1) := by decide +kernel
theorem dX7_cutsOne_45 : decode cX7_cutsOne 45 = .ok (.ifCond .ne 7, 3) := by decide +kernel
theorem dX7_cutsOne_48 : decode cX7_cutsOne 48 = .ok (.iload_n 3, 1) := by decide +kernel
theorem dX7_cutsOne_49 : decode cX7_cutsOne 49 = .ok (.ifCond .ne 7, 3) := by decide +kernel
theorem dX7_cutsOne_52 : decode cX7_cutsOne 52 = .ok (.iconst 1, 1) := by decide +kernel
theorem dX7_cutsOne_53 : decode cX7_cutsOne 53 = .ok (.goto 4, 3) := by decide +kernel
theorem dX7_cutsOne_56 : decode cX7_cutsOne 56 = .ok (.iconst 0, 1) := by decide +kernel
theorem dX7_cutsOne_57 : decode cX7_cutsOne 57 = .ok (.istore 5, 2) := by decide +kernel
theorem dX7_cutsOne_59 : decode cX7_cutsOne 59 = .ok (.aload_n 0, 1) := by decide +kernel
theorem dX7_cutsOne_60 : decode cX7_cutsOne 60 = .ok (.dup, 1) := by decide +kernel
theorem dX7_cutsOne_61 : decode cX7_cutsOne 61 = .ok (.getfield 159, 3) := by decide +kernel
theorem dX7_cutsOne_64 : decode cX7_cutsOne 64 = .ok (.iload 5, 2) := by decide +kernel
theorem dX7_cutsOne_66 : decode cX7_cutsOne 66 = .ok (.ifCond .eq 7, 3) := by decide +kernel
theorem dX7_cutsOne_69 : decode cX7_cutsOne 69 = .ok (.iconst 1, 1) := by decide +kernel
theorem dX7_cutsOne_70 : decode cX7_cutsOne 70 = .ok (.goto 4, 3) := by decide +kernel
theorem dX7_cutsOne_73 : decode cX7_cutsOne 73 = .ok (.iconst 0, 1) := by decide +kernel
theorem dX7_cutsOne_74 : decode cX7_cutsOne 74 = .ok (.iadd, 1) := by decide +kernel
theorem dX7_cutsOne_75 : decode cX7_cutsOne 75 = .ok (.putfield 159, 3) := by decide +kernel
theorem dX7_cutsOne_78 : decode cX7_cutsOne 78 = .ok (.aload_n 0, 1) := by decide +kernel
theorem dX7_cutsOne_79 : decode cX7_cutsOne 79 = .ok (.dup, 1) := by decide +kernel
theorem dX7_cutsOne_80 : decode cX7_cutsOne 80 = .ok (.getfield 156, 3) := by decide +kernel
theorem dX7_cutsOne_83 : decode cX7_cutsOne 83 = .ok (.iload 5, 2) := by decide +kernel
theorem dX7_cutsOne_85 : decode cX7_cutsOne 85 = .ok (.ifCond .ne 11, 3) := by decide +kernel
theorem dX7_cutsOne_88 : decode cX7_cutsOne 88 = .ok (.iload_n 3, 1) := by decide +kernel
theorem dX7_cutsOne_89 : decode cX7_cutsOne 89 = .ok (.ifCond .eq 7, 3) := by decide +kernel
theorem dX7_cutsOne_92 : decode cX7_cutsOne 92 = .ok (.iconst 1, 1) := by decide +kernel
theorem dX7_cutsOne_93 : decode cX7_cutsOne 93 = .ok (.goto 4, 3) := by decide +kernel
theorem dX7_cutsOne_96 : decode cX7_cutsOne 96 = .ok (.iconst 0, 1) := by decide +kernel
theorem dX7_cutsOne_97 : decode cX7_cutsOne 97 = .ok (.iadd, 1) := by decide +kernel
theorem dX7_cutsOne_98 : decode cX7_cutsOne 98 = .ok (.putfield 156, 3) := by decide +kernel
theorem dX7_cutsOne_101 : decode cX7_cutsOne 101 = .ok (.return_, 1) := by decide +kernel
theorem dX7_cuts_0 : decode cX7_cuts 0 = .ok (.aload_n 0, 1) := by decide +kernel
theorem dX7_cuts_1 : decode cX7_cuts 1 = .ok (.iconst 0, 1) := by decide +kernel
theorem dX7_cuts_2 : decode cX7_cuts 2 = .ok (.putfield 156, 3) := by decide +kernel
theorem dX7_cuts_5 : decode cX7_cuts 5 = .ok (.aload_n 0, 1) := by decide +kernel
theorem dX7_cuts_6 : decode cX7_cuts 6 = .ok (.iconst 0, 1) := by decide +kernel
theorem dX7_cuts_7 : decode cX7_cuts 7 = .ok (.putfield 159, 3) := by decide +kernel
theorem dX7_cuts_10 : decode cX7_cuts 10 = .ok (.aload_n 0, 1) := by decide +kernel
theorem dX7_cuts_11 : decode cX7_cuts 11 = .ok (.iload_n 1, 1) := by decide +kernel
theorem dX7_cuts_12 : decode cX7_cuts 12 = .ok (.iconst 0, 1) := by decide +kernel
theorem dX7_cuts_13 : decode cX7_cuts 13 = .ok (.invokevirtual 150, 3) := by decide +kernel
theorem dX7_cuts_16 : decode cX7_cuts 16 = .ok (.istore_n 2, 1) := by decide +kernel
theorem dX7_cuts_17 : decode cX7_cuts 17 = .ok (.aload_n 0, 1) := by decide +kernel
theorem dX7_cuts_18 : decode cX7_cuts 18 = .ok (.iload_n 1, 1) := by decide +kernel
theorem dX7_cuts_19 : decode cX7_cuts 19 = .ok (.invokevirtual 162, 3) := by decide +kernel
theorem dX7_cuts_22 : decode cX7_cuts 22 = .ok (.ifCond .eq 13, 3) := by decide +kernel
theorem dX7_cuts_25 : decode cX7_cuts 25 = .ok (.iload_n 2, 1) := by decide +kernel
theorem dX7_cuts_26 : decode cX7_cuts 26 = .ok (.iconst 2, 1) := by decide +kernel
theorem dX7_cuts_27 : decode cX7_cuts 27 = .ok (.if_icmp .eq 8, 3) := by decide +kernel
theorem dX7_cuts_30 : decode cX7_cuts 30 = .ok (.iload_n 2, 1) := by decide +kernel
theorem dX7_cuts_31 : decode cX7_cuts 31 = .ok (.iconst 5, 1) := by decide +kernel
theorem dX7_cuts_32 : decode cX7_cuts 32 = .ok (.if_icmp .ne 4, 3) := by decide +kernel
theorem dX7_cuts_35 : decode cX7_cuts 35 = .ok (.return_, 1) := by decide +kernel
theorem dX7_cuts_36 : decode cX7_cuts 36 = .ok (.aload_n 0, 1) := by decide +kernel
theorem dX7_cuts_37 : decode cX7_cuts 37 = .ok (.iload_n 1, 1) := by decide +kernel
theorem dX7_cuts_38 : decode cX7_cuts 38 = .ok (.iload_n 2, 1) := by decide +kernel
theorem dX7_cuts_39 : decode cX7_cuts 39 = .ok (.iconst 3, 1) := by decide +kernel
theorem dX7_cuts_40 : decode cX7_cuts 40 = .ok (.if_icmp .eq 9, 3) := by decide +kernel
theorem dX7_cuts_43 : decode cX7_cuts 43 = .ok (.iload_n 2, 1) := by decide +kernel
theorem dX7_cuts_44 : decode cX7_cuts 44 = .ok (.bipush 6, 2) := by decide +kernel
theorem dX7_cuts_46 : decode cX7_cuts 46 = .ok (.if_icmp .ne 7, 3) := by decide +kernel
theorem dX7_cuts_49 : decode cX7_cuts 49 = .ok (.iconst 1, 1) := by decide +kernel
theorem dX7_cuts_50 : decode cX7_cuts 50 = .ok (.goto 4, 3) := by decide +kernel
theorem dX7_cuts_53 : decode cX7_cuts 53 = .ok (.iconst 0, 1) := by decide +kernel
theorem dX7_cuts_54 : decode cX7_cuts 54 = .ok (.invokevirtual 165, 3) := by decide +kernel
theorem dX7_cuts_57 : decode cX7_cuts 57 = .ok (.iload_n 2, 1) := by decide +kernel
theorem dX7_cuts_58 : decode cX7_cuts 58 = .ok (.bipush 6, 2) := by decide +kernel
theorem dX7_cuts_60 : decode cX7_cuts 60 = .ok (.if_icmp .ne 9, 3) := by decide +kernel
theorem dX7_cuts_63 : decode cX7_cuts 63 = .ok (.aload_n 0, 1) := by decide +kernel
theorem dX7_cuts_64 : decode cX7_cuts 64 = .ok (.iload_n 1, 1) := by decide +kernel
theorem dX7_cuts_65 : decode cX7_cuts 65 = .ok (.iconst 1, 1) := by decide +kernel
theorem dX7_cuts_66 : decode cX7_cuts 66 = .ok (.invokevirtual 165, 3) := by decide +kernel
theorem dX7_cuts_69 : decode cX7_cuts 69 = .ok (.return_, 1) := by decide +kernel
theorem dX7_counts_0 : decode cX7_counts 0 = .ok (.aload_n 0, 1) := by decide +kernel
theorem dX7_counts_1 : decode cX7_counts 1 = .ok (.iload_n 1, 1) := by decide +kernel
theorem dX7_counts_2 : decode cX7_counts 2 = .ok (.invokevirtual 162, 3) := by decide +kernel
theorem dX7_counts_5 : decode cX7_counts 5 = .ok (.ifCond .ne 5, 3) := by decide +kernel
theorem dX7_counts_8 : decode cX7_counts 8 = .ok (.iconst 0, 1) := by decide +kernel
theorem dX7_counts_9 : decode cX7_counts 9 = .ok (.ireturn, 1) := by decide +kernel
theorem dX7_counts_10 : decode cX7_counts 10 = .ok (.aload_n 0, 1) := by decide +kernel
theorem dX7_counts_11 : decode cX7_counts 11 = .ok (.iload_n 1, 1) := by decide +kernel
theorem dX7_counts_12 : decode cX7_counts 12 = .ok (.invokevirtual 169, 3) := by decide +kernel
theorem dX7_counts_15 : decode cX7_counts 15 = .ok (.aload_n 0, 1) := by decide +kernel
theorem dX7_counts_16 : decode cX7_counts 16 = .ok (.iload_n 1, 1) := by decide +kernel
theorem dX7_counts_17 : decode cX7_counts 17 = .ok (.iconst 0, 1) := by decide +kernel
theorem dX7_counts_18 : decode cX7_counts 18 = .ok (.invokevirtual 150, 3) := by decide +kernel
theorem dX7_counts_21 : decode cX7_counts 21 = .ok (.tableswitch 78 2 5 #[31, 78, 66, 40], 31) := by decide +kernel
theorem dX7_counts_52 : decode cX7_counts 52 = .ok (.aload_n 0, 1) := by decide +kernel
theorem dX7_counts_53 : decode cX7_counts 53 = .ok (.iload_n 1, 1) := by decide +kernel
theorem dX7_counts_54 : decode cX7_counts 54 = .ok (.iconst 1, 1) := by decide +kernel
theorem dX7_counts_55 : decode cX7_counts 55 = .ok (.invokevirtual 150, 3) := by decide +kernel
theorem dX7_counts_58 : decode cX7_counts 58 = .ok (.iconst 2, 1) := by decide +kernel
theorem dX7_counts_59 : decode cX7_counts 59 = .ok (.irem, 1) := by decide +kernel
theorem dX7_counts_60 : decode cX7_counts 60 = .ok (.ireturn, 1) := by decide +kernel
theorem dX7_counts_61 : decode cX7_counts 61 = .ok (.aload_n 0, 1) := by decide +kernel
theorem dX7_counts_62 : decode cX7_counts 62 = .ok (.iload_n 1, 1) := by decide +kernel
theorem dX7_counts_63 : decode cX7_counts 63 = .ok (.iconst 1, 1) := by decide +kernel
theorem dX7_counts_64 : decode cX7_counts 64 = .ok (.invokevirtual 150, 3) := by decide +kernel
theorem dX7_counts_67 : decode cX7_counts 67 = .ok (.iconst 2, 1) := by decide +kernel
theorem dX7_counts_68 : decode cX7_counts 68 = .ok (.irem, 1) := by decide +kernel
theorem dX7_counts_69 : decode cX7_counts 69 = .ok (.aload_n 0, 1) := by decide +kernel
theorem dX7_counts_70 : decode cX7_counts 70 = .ok (.iload_n 1, 1) := by decide +kernel
theorem dX7_counts_71 : decode cX7_counts 71 = .ok (.iconst 5, 1) := by decide +kernel
theorem dX7_counts_72 : decode cX7_counts 72 = .ok (.invokevirtual 150, 3) := by decide +kernel
theorem dX7_counts_75 : decode cX7_counts 75 = .ok (.bipush 50, 2) := by decide +kernel
theorem dX7_counts_77 : decode cX7_counts 77 = .ok (.if_icmp .ge 7, 3) := by decide +kernel
theorem dX7_counts_80 : decode cX7_counts 80 = .ok (.iconst 1, 1) := by decide +kernel
theorem dX7_counts_81 : decode cX7_counts 81 = .ok (.goto 4, 3) := by decide +kernel
theorem dX7_counts_84 : decode cX7_counts 84 = .ok (.iconst 0, 1) := by decide +kernel
theorem dX7_counts_85 : decode cX7_counts 85 = .ok (.iadd, 1) := by decide +kernel
theorem dX7_counts_86 : decode cX7_counts 86 = .ok (.ireturn, 1) := by decide +kernel
theorem dX7_counts_87 : decode cX7_counts 87 = .ok (.aload_n 0, 1) := by decide +kernel
theorem dX7_counts_88 : decode cX7_counts 88 = .ok (.getfield 156, 3) := by decide +kernel
theorem dX7_counts_91 : decode cX7_counts 91 = .ok (.iconst 5, 1) := by decide +kernel
theorem dX7_counts_92 : decode cX7_counts 92 = .ok (.aload_n 0, 1) := by decide +kernel
theorem dX7_counts_93 : decode cX7_counts 93 = .ok (.getfield 159, 3) := by decide +kernel
theorem dX7_counts_96 : decode cX7_counts 96 = .ok (.imul, 1) := by decide +kernel
theorem dX7_counts_97 : decode cX7_counts 97 = .ok (.iadd, 1) := by decide +kernel
theorem dX7_counts_98 : decode cX7_counts 98 = .ok (.ireturn, 1) := by decide +kernel
theorem dX7_counts_99 : decode cX7_counts 99 = .ok (.aload_n 0, 1) := by decide +kernel
theorem dX7_counts_100 : decode cX7_counts 100 = .ok (.getfield 156, 3) := by decide +kernel
theorem dX7_counts_103 : decode cX7_counts 103 = .ok (.iconst 3, 1) := by decide +kernel
theorem dX7_counts_104 : decode cX7_counts 104 = .ok (.aload_n 0, 1) := by decide +kernel
theorem dX7_counts_105 : decode cX7_counts 105 = .ok (.getfield 159, 3) := by decide +kernel
theorem dX7_counts_108 : decode cX7_counts 108 = .ok (.imul, 1) := by decide +kernel
theorem dX7_counts_109 : decode cX7_counts 109 = .ok (.iadd, 1) := by decide +kernel
theorem dX7_counts_110 : decode cX7_counts 110 = .ok (.ireturn, 1) := by decide +kernel
theorem dX7_countsFor_0 : decode cX7_countsFor 0 = .ok (.iconst 0, 1) := by decide +kernel
theorem dX7_countsFor_1 : decode cX7_countsFor 1 = .ok (.istore_n 3, 1) := by decide +kernel
theorem dX7_countsFor_2 : decode cX7_countsFor 2 = .ok (.iconst 0, 1) := by decide +kernel
theorem dX7_countsFor_3 : decode cX7_countsFor 3 = .ok (.istore 4, 2) := by decide +kernel
theorem dX7_countsFor_5 : decode cX7_countsFor 5 = .ok (.iload 4, 2) := by decide +kernel
theorem dX7_countsFor_7 : decode cX7_countsFor 7 = .ok (.aload_n 0, 1) := by decide +kernel
theorem dX7_countsFor_8 : decode cX7_countsFor 8 = .ok (.getfield 7, 3) := by decide +kernel
theorem dX7_countsFor_11 : decode cX7_countsFor 11 = .ok (.iconst 0, 1) := by decide +kernel
theorem dX7_countsFor_12 : decode cX7_countsFor 12 = .ok (.iaload, 1) := by decide +kernel
theorem dX7_countsFor_13 : decode cX7_countsFor 13 = .ok (.if_icmp .ge 37, 3) := by decide +kernel
theorem dX7_countsFor_16 : decode cX7_countsFor 16 = .ok (.iload_n 3, 1) := by decide +kernel
theorem dX7_countsFor_17 : decode cX7_countsFor 17 = .ok (.aload_n 0, 1) := by decide +kernel
theorem dX7_countsFor_18 : decode cX7_countsFor 18 = .ok (.iload_n 1, 1) := by decide +kernel
theorem dX7_countsFor_19 : decode cX7_countsFor 19 = .ok (.iconst 1, 1) := by decide +kernel
theorem dX7_countsFor_20 : decode cX7_countsFor 20 = .ok (.invokevirtual 172, 3) := by decide +kernel
theorem dX7_countsFor_23 : decode cX7_countsFor 23 = .ok (.iload 4, 2) := by decide +kernel
theorem dX7_countsFor_25 : decode cX7_countsFor 25 = .ok (.ishr, 1) := by decide +kernel
theorem dX7_countsFor_26 : decode cX7_countsFor 26 = .ok (.iconst 1, 1) := by decide +kernel
theorem dX7_countsFor_27 : decode cX7_countsFor 27 = .ok (.iand, 1) := by decide +kernel
theorem dX7_countsFor_28 : decode cX7_countsFor 28 = .ok (.iload_n 2, 1) := by decide +kernel
theorem dX7_countsFor_29 : decode cX7_countsFor 29 = .ok (.if_icmp .ne 12, 3) := by decide +kernel
theorem dX7_countsFor_32 : decode cX7_countsFor 32 = .ok (.aload_n 0, 1) := by decide +kernel
theorem dX7_countsFor_33 : decode cX7_countsFor 33 = .ok (.iload 4, 2) := by decide +kernel
theorem dX7_countsFor_35 : decode cX7_countsFor 35 = .ok (.invokevirtual 175, 3) := by decide +kernel
theorem dX7_countsFor_38 : decode cX7_countsFor 38 = .ok (.goto 4, 3) := by decide +kernel
theorem dX7_countsFor_41 : decode cX7_countsFor 41 = .ok (.iconst 0, 1) := by decide +kernel
theorem dX7_countsFor_42 : decode cX7_countsFor 42 = .ok (.iadd, 1) := by decide +kernel
theorem dX7_countsFor_43 : decode cX7_countsFor 43 = .ok (.istore_n 3, 1) := by decide +kernel
theorem dX7_countsFor_44 : decode cX7_countsFor 44 = .ok (.iinc 4 1, 3) := by decide +kernel
theorem dX7_countsFor_47 : decode cX7_countsFor 47 = .ok (.goto (-42), 3) := by decide +kernel
theorem dX7_countsFor_50 : decode cX7_countsFor 50 = .ok (.iload_n 3, 1) := by decide +kernel
theorem dX7_countsFor_51 : decode cX7_countsFor 51 = .ok (.ireturn, 1) := by decide +kernel
theorem dX7_wouldPass_0 : decode cX7_wouldPass 0 = .ok (.aload_n 0, 1) := by decide +kernel
theorem dX7_wouldPass_1 : decode cX7_wouldPass 1 = .ok (.iload_n 1, 1) := by decide +kernel
theorem dX7_wouldPass_2 : decode cX7_wouldPass 2 = .ok (.iconst 1, 1) := by decide +kernel
theorem dX7_wouldPass_3 : decode cX7_wouldPass 3 = .ok (.invokevirtual 178, 3) := by decide +kernel
theorem dX7_wouldPass_6 : decode cX7_wouldPass 6 = .ok (.istore_n 2, 1) := by decide +kernel
theorem dX7_wouldPass_7 : decode cX7_wouldPass 7 = .ok (.aload_n 0, 1) := by decide +kernel
theorem dX7_wouldPass_8 : decode cX7_wouldPass 8 = .ok (.iload_n 1, 1) := by decide +kernel
theorem dX7_wouldPass_9 : decode cX7_wouldPass 9 = .ok (.iconst 0, 1) := by decide +kernel
theorem dX7_wouldPass_10 : decode cX7_wouldPass 10 = .ok (.invokevirtual 178, 3) := by decide +kernel
theorem dX7_wouldPass_13 : decode cX7_wouldPass 13 = .ok (.istore_n 3, 1) := by decide +kernel
theorem dX7_wouldPass_14 : decode cX7_wouldPass 14 = .ok (.iload_n 2, 1) := by decide +kernel
theorem dX7_wouldPass_15 : decode cX7_wouldPass 15 = .ok (.iload_n 3, 1) := by decide +kernel
theorem dX7_wouldPass_16 : decode cX7_wouldPass 16 = .ok (.if_icmp .le 19, 3) := by decide +kernel
theorem dX7_wouldPass_19 : decode cX7_wouldPass 19 = .ok (.iload_n 2, 1) := by decide +kernel
theorem dX7_wouldPass_20 : decode cX7_wouldPass 20 = .ok (.iload_n 3, 1) := by decide +kernel
theorem dX7_wouldPass_21 : decode cX7_wouldPass 21 = .ok (.iadd, 1) := by decide +kernel
theorem dX7_wouldPass_22 : decode cX7_wouldPass 22 = .ok (.aload_n 0, 1) := by decide +kernel
theorem dX7_wouldPass_23 : decode cX7_wouldPass 23 = .ok (.iload_n 1, 1) := by decide +kernel
theorem dX7_wouldPass_24 : decode cX7_wouldPass 24 = .ok (.iconst 0, 1) := by decide +kernel
theorem dX7_wouldPass_25 : decode cX7_wouldPass 25 = .ok (.invokevirtual 172, 3) := by decide +kernel
theorem dX7_wouldPass_28 : decode cX7_wouldPass 28 = .ok (.if_icmp .lt 7, 3) := by decide +kernel
theorem dX7_wouldPass_31 : decode cX7_wouldPass 31 = .ok (.iconst 1, 1) := by decide +kernel
theorem dX7_wouldPass_32 : decode cX7_wouldPass 32 = .ok (.goto 4, 3) := by decide +kernel
theorem dX7_wouldPass_35 : decode cX7_wouldPass 35 = .ok (.iconst 0, 1) := by decide +kernel
theorem dX7_wouldPass_36 : decode cX7_wouldPass 36 = .ok (.ireturn, 1) := by decide +kernel
theorem dX7_lawMany_0 : decode cX7_lawMany 0 = .ok (.iconst 0, 1) := by decide +kernel
theorem dX7_lawMany_1 : decode cX7_lawMany 1 = .ok (.istore_n 1, 1) := by decide +kernel
theorem dX7_lawMany_2 : decode cX7_lawMany 2 = .ok (.iconst 0, 1) := by decide +kernel
theorem dX7_lawMany_3 : decode cX7_lawMany 3 = .ok (.istore_n 2, 1) := by decide +kernel
theorem dX7_lawMany_4 : decode cX7_lawMany 4 = .ok (.iload_n 2, 1) := by decide +kernel
theorem dX7_lawMany_5 : decode cX7_lawMany 5 = .ok (.aload_n 0, 1) := by decide +kernel
theorem dX7_lawMany_6 : decode cX7_lawMany 6 = .ok (.getfield 7, 3) := by decide +kernel
theorem dX7_lawMany_9 : decode cX7_lawMany 9 = .ok (.iconst 1, 1) := by decide +kernel
theorem dX7_lawMany_10 : decode cX7_lawMany 10 = .ok (.iaload, 1) := by decide +kernel
theorem dX7_lawMany_11 : decode cX7_lawMany 11 = .ok (.if_icmp .ge 18, 3) := by decide +kernel
theorem dX7_lawMany_14 : decode cX7_lawMany 14 = .ok (.iload_n 1, 1) := by decide +kernel
theorem dX7_lawMany_15 : decode cX7_lawMany 15 = .ok (.aload_n 0, 1) := by decide +kernel
theorem dX7_lawMany_16 : decode cX7_lawMany 16 = .ok (.iload_n 2, 1) := by decide +kernel
theorem dX7_lawMany_17 : decode cX7_lawMany 17 = .ok (.iconst 2, 1) := by decide +kernel
theorem dX7_lawMany_18 : decode cX7_lawMany 18 = .ok (.invokevirtual 172, 3) := by decide +kernel
theorem dX7_lawMany_21 : decode cX7_lawMany 21 = .ok (.iadd, 1) := by decide +kernel
theorem dX7_lawMany_22 : decode cX7_lawMany 22 = .ok (.istore_n 1, 1) := by decide +kernel
theorem dX7_lawMany_23 : decode cX7_lawMany 23 = .ok (.iinc 2 1, 3) := by decide +kernel
theorem dX7_lawMany_26 : decode cX7_lawMany 26 = .ok (.goto (-22), 3) := by decide +kernel
theorem dX7_lawMany_29 : decode cX7_lawMany 29 = .ok (.iload_n 1, 1) := by decide +kernel
theorem dX7_lawMany_30 : decode cX7_lawMany 30 = .ok (.ireturn, 1) := by decide +kernel
theorem dX7_coldNow_0 : decode cX7_coldNow 0 = .ok (.aload_n 0, 1) := by decide +kernel
theorem dX7_coldNow_1 : decode cX7_coldNow 1 = .ok (.iconst 1, 1) := by decide +kernel
theorem dX7_coldNow_2 : decode cX7_coldNow 2 = .ok (.aload_n 0, 1) := by decide +kernel
theorem dX7_coldNow_3 : decode cX7_coldNow 3 = .ok (.getfield 7, 3) := by decide +kernel
theorem dX7_coldNow_6 : decode cX7_coldNow 6 = .ok (.bipush 6, 2) := by decide +kernel
theorem dX7_coldNow_8 : decode cX7_coldNow 8 = .ok (.iaload, 1) := by decide +kernel
theorem dX7_coldNow_9 : decode cX7_coldNow 9 = .ok (.aload_n 0, 1) := by decide +kernel
theorem dX7_coldNow_10 : decode cX7_coldNow 10 = .ok (.getfield 7, 3) := by decide +kernel
theorem dX7_coldNow_13 : decode cX7_coldNow 13 = .ok (.iconst 5, 1) := by decide +kernel
theorem dX7_coldNow_14 : decode cX7_coldNow 14 = .ok (.iaload, 1) := by decide +kernel
theorem dX7_coldNow_15 : decode cX7_coldNow 15 = .ok (.aload_n 0, 1) := by decide +kernel
theorem dX7_coldNow_16 : decode cX7_coldNow 16 = .ok (.invokevirtual 181, 3) := by decide +kernel
theorem dX7_coldNow_19 : decode cX7_coldNow 19 = .ok (.invokevirtual 146, 3) := by decide +kernel
theorem dX7_coldNow_22 : decode cX7_coldNow 22 = .ok (.ireturn, 1) := by decide +kernel
theorem dX7_chillOf_0 : decode cX7_chillOf 0 = .ok (.aload_n 0, 1) := by decide +kernel
theorem dX7_chillOf_1 : decode cX7_chillOf 1 = .ok (.iconst 0, 1) := by decide +kernel
theorem dX7_chillOf_2 : decode cX7_chillOf 2 = .ok (.iload_n 2, 1) := by decide +kernel
theorem dX7_chillOf_3 : decode cX7_chillOf 3 = .ok (.aload_n 0, 1) := by decide +kernel
theorem dX7_chillOf_4 : decode cX7_chillOf 4 = .ok (.iload_n 1, 1) := by decide +kernel
theorem dX7_chillOf_5 : decode cX7_chillOf 5 = .ok (.iconst 4, 1) := by decide +kernel
theorem dX7_chillOf_6 : decode cX7_chillOf 6 = .ok (.invokevirtual 150, 3) := by decide +kernel
theorem dX7_chillOf_9 : decode cX7_chillOf 9 = .ok (.aload_n 0, 1) := by decide +kernel
theorem dX7_chillOf_10 : decode cX7_chillOf 10 = .ok (.iload_n 1, 1) := by decide +kernel
theorem dX7_chillOf_11 : decode cX7_chillOf 11 = .ok (.iconst 5, 1) := by decide +kernel
theorem dX7_chillOf_12 : decode cX7_chillOf 12 = .ok (.invokevirtual 150, 3) := by decide +kernel
theorem dX7_chillOf_15 : decode cX7_chillOf 15 = .ok (.invokevirtual 146, 3) := by decide +kernel
theorem dX7_chillOf_18 : decode cX7_chillOf 18 = .ok (.istore_n 3, 1) := by decide +kernel
theorem dX7_chillOf_19 : decode cX7_chillOf 19 = .ok (.aload_n 0, 1) := by decide +kernel
theorem dX7_chillOf_20 : decode cX7_chillOf 20 = .ok (.iload_n 1, 1) := by decide +kernel
theorem dX7_chillOf_21 : decode cX7_chillOf 21 = .ok (.iconst 1, 1) := by decide +kernel
theorem dX7_chillOf_22 : decode cX7_chillOf 22 = .ok (.invokevirtual 150, 3) := by decide +kernel
theorem dX7_chillOf_25 : decode cX7_chillOf 25 = .ok (.istore 4, 2) := by decide +kernel
theorem dX7_chillOf_27 : decode cX7_chillOf 27 = .ok (.aload_n 0, 1) := by decide +kernel
theorem dX7_chillOf_28 : decode cX7_chillOf 28 = .ok (.iload_n 1, 1) := by decide +kernel
theorem dX7_chillOf_29 : decode cX7_chillOf 29 = .ok (.iconst 0, 1) := by decide +kernel
theorem dX7_chillOf_30 : decode cX7_chillOf 30 = .ok (.invokevirtual 150, 3) := by decide +kernel
theorem dX7_chillOf_33 : decode cX7_chillOf 33 = .ok (.tableswitch 81 1 5 #[35, 58, 81, 39, 62], 35) := by decide +kernel
theorem dX7_chillOf_68 : decode cX7_chillOf 68 = .ok (.iload_n 3, 1) := by decide +kernel
theorem dX7_chillOf_69 : decode cX7_chillOf 69 = .ok (.iconst 2, 1) := by decide +kernel
theorem dX7_chillOf_70 : decode cX7_chillOf 70 = .ok (.idiv, 1) := by decide +kernel
theorem dX7_chillOf_71 : decode cX7_chillOf 71 = .ok (.ireturn, 1) := by decide +kernel
theorem dX7_chillOf_72 : decode cX7_chillOf 72 = .ok (.iload_n 3, 1) := by decide +kernel
theorem dX7_chillOf_73 : decode cX7_chillOf 73 = .ok (.iconst 2, 1) := by decide +kernel
theorem dX7_chillOf_74 : decode cX7_chillOf 74 = .ok (.idiv, 1) := by decide +kernel
theorem dX7_chillOf_75 : decode cX7_chillOf 75 = .ok (.iload 4, 2) := by decide +kernel
theorem dX7_chillOf_77 : decode cX7_chillOf 77 = .ok (.if_icmp .ge 7, 3) := by decide +kernel
theorem dX7_chillOf_80 : decode cX7_chillOf 80 = .ok (.iconst 0, 1) := by decide +kernel
theorem dX7_chillOf_81 : decode cX7_chillOf 81 = .ok (.goto 9, 3) := by decide +kernel
theorem dX7_chillOf_84 : decode cX7_chillOf 84 = .ok (.iload_n 3, 1) := by decide +kernel
theorem dX7_chillOf_85 : decode cX7_chillOf 85 = .ok (.iconst 2, 1) := by decide +kernel
theorem dX7_chillOf_86 : decode cX7_chillOf 86 = .ok (.idiv, 1) := by decide +kernel
theorem dX7_chillOf_87 : decode cX7_chillOf 87 = .ok (.iload 4, 2) := by decide +kernel
theorem dX7_chillOf_89 : decode cX7_chillOf 89 = .ok (.isub, 1) := by decide +kernel
theorem dX7_chillOf_90 : decode cX7_chillOf 90 = .ok (.ireturn, 1) := by decide +kernel
theorem dX7_chillOf_91 : decode cX7_chillOf 91 = .ok (.iload_n 3, 1) := by decide +kernel
theorem dX7_chillOf_92 : decode cX7_chillOf 92 = .ok (.iconst 2, 1) := by decide +kernel
theorem dX7_chillOf_93 : decode cX7_chillOf 93 = .ok (.iadd, 1) := by decide +kernel
theorem dX7_chillOf_94 : decode cX7_chillOf 94 = .ok (.ireturn, 1) := by decide +kernel
theorem dX7_chillOf_95 : decode cX7_chillOf 95 = .ok (.iload_n 3, 1) := by decide +kernel
theorem dX7_chillOf_96 : decode cX7_chillOf 96 = .ok (.iconst 2, 1) := by decide +kernel
theorem dX7_chillOf_97 : decode cX7_chillOf 97 = .ok (.iadd, 1) := by decide +kernel
theorem dX7_chillOf_98 : decode cX7_chillOf 98 = .ok (.iload 4, 2) := by decide +kernel
theorem dX7_chillOf_100 : decode cX7_chillOf 100 = .ok (.if_icmp .ge 7, 3) := by decide +kernel
theorem dX7_chillOf_103 : decode cX7_chillOf 103 = .ok (.iconst 0, 1) := by decide +kernel
theorem dX7_chillOf_104 : decode cX7_chillOf 104 = .ok (.goto 9, 3) := by decide +kernel
theorem dX7_chillOf_107 : decode cX7_chillOf 107 = .ok (.iload_n 3, 1) := by decide +kernel
theorem dX7_chillOf_108 : decode cX7_chillOf 108 = .ok (.iconst 2, 1) := by decide +kernel
theorem dX7_chillOf_109 : decode cX7_chillOf 109 = .ok (.iadd, 1) := by decide +kernel
theorem dX7_chillOf_110 : decode cX7_chillOf 110 = .ok (.iload 4, 2) := by decide +kernel
theorem dX7_chillOf_112 : decode cX7_chillOf 112 = .ok (.isub, 1) := by decide +kernel
theorem dX7_chillOf_113 : decode cX7_chillOf 113 = .ok (.ireturn, 1) := by decide +kernel
theorem dX7_chillOf_114 : decode cX7_chillOf 114 = .ok (.iload_n 3, 1) := by decide +kernel
theorem dX7_chillOf_115 : decode cX7_chillOf 115 = .ok (.ireturn, 1) := by decide +kernel
theorem dX7_person_0 : decode cX7_person 0 = .ok (.iload_n 1, 1) := by decide +kernel
theorem dX7_person_1 : decode cX7_person 1 = .ok (.i2l, 1) := by decide +kernel
theorem dX7_person_2 : decode cX7_person 2 = .ok (.lconst 0, 1) := by decide +kernel
theorem dX7_person_3 : decode cX7_person 3 = .ok (.ldc2_w 184, 3) := by decide +kernel
theorem dX7_person_6 : decode cX7_person 6 = .ok (.invokestatic 53, 3) := by decide +kernel
theorem dX7_person_9 : decode cX7_person 9 = .ok (.ifCond .ne 9, 3) := by decide +kernel
theorem dX7_person_12 : decode cX7_person 12 = .ok (.aload_n 0, 1) := by decide +kernel
theorem dX7_person_13 : decode cX7_person 13 = .ok (.iconst 1, 1) := by decide +kernel
theorem dX7_person_14 : decode cX7_person 14 = .ok (.invokevirtual 130, 3) := by decide +kernel
theorem dX7_person_17 : decode cX7_person 17 = .ok (.ireturn, 1) := by decide +kernel
theorem dX7_person_18 : decode cX7_person 18 = .ok (.aload_n 0, 1) := by decide +kernel
theorem dX7_person_19 : decode cX7_person 19 = .ok (.getfield 7, 3) := by decide +kernel
theorem dX7_person_22 : decode cX7_person 22 = .ok (.iconst 0, 1) := by decide +kernel
theorem dX7_person_23 : decode cX7_person 23 = .ok (.iaload, 1) := by decide +kernel
theorem dX7_person_24 : decode cX7_person 24 = .ok (.bipush 8, 2) := by decide +kernel
theorem dX7_person_26 : decode cX7_person 26 = .ok (.if_icmp .ne 9, 3) := by decide +kernel
theorem dX7_person_29 : decode cX7_person 29 = .ok (.aload_n 0, 1) := by decide +kernel
theorem dX7_person_30 : decode cX7_person 30 = .ok (.iconst 4, 1) := by decide +kernel
theorem dX7_person_31 : decode cX7_person 31 = .ok (.invokevirtual 130, 3) := by decide +kernel
theorem dX7_person_34 : decode cX7_person 34 = .ok (.ireturn, 1) := by decide +kernel
theorem dX7_person_35 : decode cX7_person 35 = .ok (.aload_n 0, 1) := by decide +kernel
theorem dX7_person_36 : decode cX7_person 36 = .ok (.getfield 7, 3) := by decide +kernel
theorem dX7_person_39 : decode cX7_person 39 = .ok (.iconst 0, 1) := by decide +kernel
theorem dX7_person_40 : decode cX7_person 40 = .ok (.iaload, 1) := by decide +kernel
theorem dX7_person_41 : decode cX7_person 41 = .ok (.istore_n 2, 1) := by decide +kernel
theorem dX7_person_42 : decode cX7_person 42 = .ok (.aload_n 0, 1) := by decide +kernel
theorem dX7_person_43 : decode cX7_person 43 = .ok (.getfield 7, 3) := by decide +kernel
theorem dX7_person_46 : decode cX7_person 46 = .ok (.iconst 0, 1) := by decide +kernel
theorem dX7_person_47 : decode cX7_person 47 = .ok (.dup2, 1) := by decide +kernel
theorem dX7_person_48 : decode cX7_person 48 = .ok (.iaload, 1) := by decide +kernel
theorem dX7_person_49 : decode cX7_person 49 = .ok (.iconst 1, 1) := by decide +kernel
theorem dX7_person_50 : decode cX7_person 50 = .ok (.iadd, 1) := by decide +kernel
theorem dX7_person_51 : decode cX7_person 51 = .ok (.iastore, 1) := by decide +kernel
theorem dX7_person_52 : decode cX7_person 52 = .ok (.aload_n 0, 1) := by decide +kernel
theorem dX7_person_53 : decode cX7_person 53 = .ok (.iload_n 2, 1) := by decide +kernel
theorem dX7_person_54 : decode cX7_person 54 = .ok (.iconst 0, 1) := by decide +kernel
theorem dX7_person_55 : decode cX7_person 55 = .ok (.iload_n 1, 1) := by decide +kernel
theorem dX7_person_56 : decode cX7_person 56 = .ok (.bipush 10, 2) := by decide +kernel
theorem dX7_person_58 : decode cX7_person 58 = .ok (.idiv, 1) := by decide +kernel
theorem dX7_person_59 : decode cX7_person 59 = .ok (.invokevirtual 186, 3) := by decide +kernel
theorem dX7_person_62 : decode cX7_person 62 = .ok (.aload_n 0, 1) := by decide +kernel
theorem dX7_person_63 : decode cX7_person 63 = .ok (.iload_n 2, 1) := by decide +kernel
theorem dX7_person_64 : decode cX7_person 64 = .ok (.iconst 1, 1) := by decide +kernel
theorem dX7_person_65 : decode cX7_person 65 = .ok (.iload_n 1, 1) := by decide +kernel
theorem dX7_person_66 : decode cX7_person 66 = .ok (.bipush 10, 2) := by decide +kernel
theorem dX7_person_68 : decode cX7_person 68 = .ok (.irem, 1) := by decide +kernel
theorem dX7_person_69 : decode cX7_person 69 = .ok (.invokevirtual 186, 3) := by decide +kernel
theorem dX7_person_72 : decode cX7_person 72 = .ok (.aload_n 0, 1) := by decide +kernel
theorem dX7_person_73 : decode cX7_person 73 = .ok (.iload_n 2, 1) := by decide +kernel
theorem dX7_person_74 : decode cX7_person 74 = .ok (.iconst 2, 1) := by decide +kernel
theorem dX7_person_75 : decode cX7_person 75 = .ok (.iconst 4, 1) := by decide +kernel
theorem dX7_person_76 : decode cX7_person 76 = .ok (.invokevirtual 186, 3) := by decide +kernel
theorem dX7_person_79 : decode cX7_person 79 = .ok (.aload_n 0, 1) := by decide +kernel
theorem dX7_person_80 : decode cX7_person 80 = .ok (.iload_n 2, 1) := by decide +kernel
theorem dX7_person_81 : decode cX7_person 81 = .ok (.iconst 3, 1) := by decide +kernel
theorem dX7_person_82 : decode cX7_person 82 = .ok (.iconst 1, 1) := by decide +kernel
theorem dX7_person_83 : decode cX7_person 83 = .ok (.invokevirtual 186, 3) := by decide +kernel
theorem dX7_person_86 : decode cX7_person 86 = .ok (.aload_n 0, 1) := by decide +kernel
theorem dX7_person_87 : decode cX7_person 87 = .ok (.iload_n 2, 1) := by decide +kernel
theorem dX7_person_88 : decode cX7_person 88 = .ok (.iconst 4, 1) := by decide +kernel
theorem dX7_person_89 : decode cX7_person 89 = .ok (.iconst 0, 1) := by decide +kernel
theorem dX7_person_90 : decode cX7_person 90 = .ok (.invokevirtual 186, 3) := by decide +kernel
theorem dX7_person_93 : decode cX7_person 93 = .ok (.aload_n 0, 1) := by decide +kernel
theorem dX7_person_94 : decode cX7_person 94 = .ok (.iload_n 2, 1) := by decide +kernel
theorem dX7_person_95 : decode cX7_person 95 = .ok (.iconst 5, 1) := by decide +kernel
theorem dX7_person_96 : decode cX7_person 96 = .ok (.bipush 99, 2) := by decide +kernel
theorem dX7_person_98 : decode cX7_person 98 = .ok (.invokevirtual 186, 3) := by decide +kernel
theorem dX7_person_101 : decode cX7_person 101 = .ok (.iload_n 2, 1) := by decide +kernel
theorem dX7_person_102 : decode cX7_person 102 = .ok (.ireturn, 1) := by decide +kernel
theorem dX7_ofPerson_0 : decode cX7_ofPerson 0 = .ok (.aload_n 0, 1) := by decide +kernel
theorem dX7_ofPerson_1 : decode cX7_ofPerson 1 = .ok (.iload_n 1, 1) := by decide +kernel
theorem dX7_ofPerson_2 : decode cX7_ofPerson 2 = .ok (.invokevirtual 189, 3) := by decide +kernel
theorem dX7_ofPerson_5 : decode cX7_ofPerson 5 = .ok (.ifCond .eq 15, 3) := by decide +kernel
theorem dX7_ofPerson_8 : decode cX7_ofPerson 8 = .ok (.iload_n 2, 1) := by decide +kernel
theorem dX7_ofPerson_9 : decode cX7_ofPerson 9 = .ok (.i2l, 1) := by decide +kernel
theorem dX7_ofPerson_10 : decode cX7_ofPerson 10 = .ok (.lconst 0, 1) := by decide +kernel
theorem dX7_ofPerson_11 : decode cX7_ofPerson 11 = .ok (.ldc2_w 192, 3) := by decide +kernel
theorem dX7_ofPerson_14 : decode cX7_ofPerson 14 = .ok (.invokestatic 53, 3) := by decide +kernel
theorem dX7_ofPerson_17 : decode cX7_ofPerson 17 = .ok (.ifCond .ne 9, 3) := by decide +kernel
theorem dX7_ofPerson_20 : decode cX7_ofPerson 20 = .ok (.aload_n 0, 1) := by decide +kernel
theorem dX7_ofPerson_21 : decode cX7_ofPerson 21 = .ok (.iconst 1, 1) := by decide +kernel
theorem dX7_ofPerson_22 : decode cX7_ofPerson 22 = .ok (.invokevirtual 130, 3) := by decide +kernel
theorem dX7_ofPerson_25 : decode cX7_ofPerson 25 = .ok (.ireturn, 1) := by decide +kernel
theorem dX7_ofPerson_26 : decode cX7_ofPerson 26 = .ok (.iload_n 2, 1) := by decide +kernel
theorem dX7_ofPerson_27 : decode cX7_ofPerson 27 = .ok (.tableswitch 74 6 9 #[29, 43, 58, 64], 29) := by decide +kernel
theorem dX7_ofPerson_56 : decode cX7_ofPerson 56 = .ok (.aload_n 0, 1) := by decide +kernel
theorem dX7_ofPerson_57 : decode cX7_ofPerson 57 = .ok (.iload_n 1, 1) := by decide +kernel
theorem dX7_ofPerson_58 : decode cX7_ofPerson 58 = .ok (.invokevirtual 162, 3) := by decide +kernel
theorem dX7_ofPerson_61 : decode cX7_ofPerson 61 = .ok (.ifCond .eq 7, 3) := by decide +kernel
theorem dX7_ofPerson_64 : decode cX7_ofPerson 64 = .ok (.iconst 1, 1) := by decide +kernel
theorem dX7_ofPerson_65 : decode cX7_ofPerson 65 = .ok (.goto 4, 3) := by decide +kernel
theorem dX7_ofPerson_68 : decode cX7_ofPerson 68 = .ok (.iconst 0, 1) := by decide +kernel
theorem dX7_ofPerson_69 : decode cX7_ofPerson 69 = .ok (.ireturn, 1) := by decide +kernel
theorem dX7_ofPerson_70 : decode cX7_ofPerson 70 = .ok (.aload_n 0, 1) := by decide +kernel
theorem dX7_ofPerson_71 : decode cX7_ofPerson 71 = .ok (.iload_n 1, 1) := by decide +kernel
theorem dX7_ofPerson_72 : decode cX7_ofPerson 72 = .ok (.invokevirtual 169, 3) := by decide +kernel
theorem dX7_ofPerson_75 : decode cX7_ofPerson 75 = .ok (.aload_n 0, 1) := by decide +kernel
theorem dX7_ofPerson_76 : decode cX7_ofPerson 76 = .ok (.getfield 156, 3) := by decide +kernel
theorem dX7_ofPerson_79 : decode cX7_ofPerson 79 = .ok (.aload_n 0, 1) := by decide +kernel
theorem dX7_ofPerson_80 : decode cX7_ofPerson 80 = .ok (.getfield 159, 3) := by decide +kernel
theorem dX7_ofPerson_83 : decode cX7_ofPerson 83 = .ok (.iadd, 1) := by decide +kernel
theorem dX7_ofPerson_84 : decode cX7_ofPerson 84 = .ok (.ireturn, 1) := by decide +kernel
theorem dX7_ofPerson_85 : decode cX7_ofPerson 85 = .ok (.aload_n 0, 1) := by decide +kernel
theorem dX7_ofPerson_86 : decode cX7_ofPerson 86 = .ok (.iload_n 1, 1) := by decide +kernel
theorem dX7_ofPerson_87 : decode cX7_ofPerson 87 = .ok (.invokevirtual 175, 3) := by decide +kernel
theorem dX7_ofPerson_90 : decode cX7_ofPerson 90 = .ok (.ireturn, 1) := by decide +kernel
theorem dX7_ofPerson_91 : decode cX7_ofPerson 91 = .ok (.aload_n 0, 1) := by decide +kernel
theorem dX7_ofPerson_92 : decode cX7_ofPerson 92 = .ok (.iload_n 1, 1) := by decide +kernel
theorem dX7_ofPerson_93 : decode cX7_ofPerson 93 = .ok (.aload_n 0, 1) := by decide +kernel
theorem dX7_ofPerson_94 : decode cX7_ofPerson 94 = .ok (.invokevirtual 194, 3) := by decide +kernel
theorem dX7_ofPerson_97 : decode cX7_ofPerson 97 = .ok (.invokevirtual 197, 3) := by decide +kernel
theorem dX7_ofPerson_100 : decode cX7_ofPerson 100 = .ok (.ireturn, 1) := by decide +kernel
theorem dX7_ofPerson_101 : decode cX7_ofPerson 101 = .ok (.aload_n 0, 1) := by decide +kernel
theorem dX7_ofPerson_102 : decode cX7_ofPerson 102 = .ok (.iload_n 1, 1) := by decide +kernel
theorem dX7_ofPerson_103 : decode cX7_ofPerson 103 = .ok (.iload_n 2, 1) := by decide +kernel
theorem dX7_ofPerson_104 : decode cX7_ofPerson 104 = .ok (.invokevirtual 150, 3) := by decide +kernel
theorem dX7_ofPerson_107 : decode cX7_ofPerson 107 = .ok (.ireturn, 1) := by decide +kernel
theorem dX7_change_0 : decode cX7_change 0 = .ok (.aload_n 0, 1) := by decide +kernel
theorem dX7_change_1 : decode cX7_change 1 = .ok (.iload_n 1, 1) := by decide +kernel
theorem dX7_change_2 : decode cX7_change 2 = .ok (.invokevirtual 189, 3) := by decide +kernel
theorem dX7_change_5 : decode cX7_change 5 = .ok (.ifCond .eq 38, 3) := by decide +kernel
theorem dX7_change_8 : decode cX7_change 8 = .ok (.iload_n 2, 1) := by decide +kernel
theorem dX7_change_9 : decode cX7_change 9 = .ok (.i2l, 1) := by decide +kernel
theorem dX7_change_10 : decode cX7_change 10 = .ok (.lconst 0, 1) := by decide +kernel
theorem dX7_change_11 : decode cX7_change 11 = .ok (.ldc2_w 200, 3) := by decide +kernel
theorem dX7_change_14 : decode cX7_change 14 = .ok (.invokestatic 53, 3) := by decide +kernel
theorem dX7_change_17 : decode cX7_change 17 = .ok (.ifCond .eq 26, 3) := by decide +kernel
theorem dX7_change_20 : decode cX7_change 20 = .ok (.iload_n 3, 1) := by decide +kernel
theorem dX7_change_21 : decode cX7_change 21 = .ok (.i2l, 1) := by decide +kernel
theorem dX7_change_22 : decode cX7_change 22 = .ok (.lconst 0, 1) := by decide +kernel
theorem dX7_change_23 : decode cX7_change 23 = .ok (.iload_n 2, 1) := by decide +kernel
theorem dX7_change_24 : decode cX7_change 24 = .ok (.iconst 2, 1) := by decide +kernel
theorem dX7_change_25 : decode cX7_change 25 = .ok (.if_icmp .ge 9, 3) := by decide +kernel
theorem dX7_change_28 : decode cX7_change 28 = .ok (.ldc2_w 192, 3) := by decide +kernel
theorem dX7_change_31 : decode cX7_change 31 = .ok (.goto 6, 3) := by decide +kernel
theorem dX7_change_34 : decode cX7_change 34 = .ok (.ldc2_w 202, 3) := by decide +kernel
theorem dX7_change_37 : decode cX7_change 37 = .ok (.invokestatic 53, 3) := by decide +kernel
theorem dX7_change_40 : decode cX7_change 40 = .ok (.ifCond .ne 9, 3) := by decide +kernel
theorem dX7_change_43 : decode cX7_change 43 = .ok (.aload_n 0, 1) := by decide +kernel
theorem dX7_change_44 : decode cX7_change 44 = .ok (.iconst 1, 1) := by decide +kernel
theorem dX7_change_45 : decode cX7_change 45 = .ok (.invokevirtual 130, 3) := by decide +kernel
theorem dX7_change_48 : decode cX7_change 48 = .ok (.ireturn, 1) := by decide +kernel
theorem dX7_change_49 : decode cX7_change 49 = .ok (.aload_n 0, 1) := by decide +kernel
theorem dX7_change_50 : decode cX7_change 50 = .ok (.iload_n 1, 1) := by decide +kernel
theorem dX7_change_51 : decode cX7_change 51 = .ok (.iconst 2, 1) := by decide +kernel
theorem dX7_change_52 : decode cX7_change 52 = .ok (.iload_n 2, 1) := by decide +kernel
theorem dX7_change_53 : decode cX7_change 53 = .ok (.iadd, 1) := by decide +kernel
theorem dX7_change_54 : decode cX7_change 54 = .ok (.invokevirtual 150, 3) := by decide +kernel
theorem dX7_change_57 : decode cX7_change 57 = .ok (.istore 4, 2) := by decide +kernel
theorem dX7_change_59 : decode cX7_change 59 = .ok (.aload_n 0, 1) := by decide +kernel
theorem dX7_change_60 : decode cX7_change 60 = .ok (.iload_n 1, 1) := by decide +kernel
theorem dX7_change_61 : decode cX7_change 61 = .ok (.iconst 2, 1) := by decide +kernel
theorem dX7_change_62 : decode cX7_change 62 = .ok (.iload_n 2, 1) := by decide +kernel
theorem dX7_change_63 : decode cX7_change 63 = .ok (.iadd, 1) := by decide +kernel
theorem dX7_change_64 : decode cX7_change 64 = .ok (.iload_n 3, 1) := by decide +kernel
theorem dX7_change_65 : decode cX7_change 65 = .ok (.invokevirtual 186, 3) := by decide +kernel
theorem dX7_change_68 : decode cX7_change 68 = .ok (.iload 4, 2) := by decide +kernel
theorem dX7_change_70 : decode cX7_change 70 = .ok (.ireturn, 1) := by decide +kernel
theorem dX7_become_0 : decode cX7_become 0 = .ok (.aload_n 0, 1) := by decide +kernel
theorem dX7_become_1 : decode cX7_become 1 = .ok (.iload_n 1, 1) := by decide +kernel
theorem dX7_become_2 : decode cX7_become 2 = .ok (.invokevirtual 189, 3) := by decide +kernel
theorem dX7_become_5 : decode cX7_become 5 = .ok (.ifCond .eq 15, 3) := by decide +kernel
theorem dX7_become_8 : decode cX7_become 8 = .ok (.iload_n 2, 1) := by decide +kernel
theorem dX7_become_9 : decode cX7_become 9 = .ok (.i2l, 1) := by decide +kernel
theorem dX7_become_10 : decode cX7_become 10 = .ok (.lconst 0, 1) := by decide +kernel
theorem dX7_become_11 : decode cX7_become 11 = .ok (.ldc2_w 184, 3) := by decide +kernel
theorem dX7_become_14 : decode cX7_become 14 = .ok (.invokestatic 53, 3) := by decide +kernel
theorem dX7_become_17 : decode cX7_become 17 = .ok (.ifCond .ne 9, 3) := by decide +kernel
theorem dX7_become_20 : decode cX7_become 20 = .ok (.aload_n 0, 1) := by decide +kernel
theorem dX7_become_21 : decode cX7_become 21 = .ok (.iconst 1, 1) := by decide +kernel
theorem dX7_become_22 : decode cX7_become 22 = .ok (.invokevirtual 130, 3) := by decide +kernel
theorem dX7_become_25 : decode cX7_become 25 = .ok (.ireturn, 1) := by decide +kernel
theorem dX7_become_26 : decode cX7_become 26 = .ok (.aload_n 0, 1) := by decide +kernel
theorem dX7_become_27 : decode cX7_become 27 = .ok (.iload_n 1, 1) := by decide +kernel
theorem dX7_become_28 : decode cX7_become 28 = .ok (.iconst 0, 1) := by decide +kernel
theorem dX7_become_29 : decode cX7_become 29 = .ok (.invokevirtual 150, 3) := by decide +kernel
theorem dX7_become_32 : decode cX7_become 32 = .ok (.istore_n 3, 1) := by decide +kernel
theorem dX7_become_33 : decode cX7_become 33 = .ok (.aload_n 0, 1) := by decide +kernel
theorem dX7_become_34 : decode cX7_become 34 = .ok (.iload_n 1, 1) := by decide +kernel
theorem dX7_become_35 : decode cX7_become 35 = .ok (.iconst 0, 1) := by decide +kernel
theorem dX7_become_36 : decode cX7_become 36 = .ok (.iload_n 2, 1) := by decide +kernel
theorem dX7_become_37 : decode cX7_become 37 = .ok (.bipush 10, 2) := by decide +kernel
theorem dX7_become_39 : decode cX7_become 39 = .ok (.idiv, 1) := by decide +kernel
theorem dX7_become_40 : decode cX7_become 40 = .ok (.invokevirtual 186, 3) := by decide +kernel
theorem dX7_become_43 : decode cX7_become 43 = .ok (.aload_n 0, 1) := by decide +kernel
theorem dX7_become_44 : decode cX7_become 44 = .ok (.iload_n 1, 1) := by decide +kernel
theorem dX7_become_45 : decode cX7_become 45 = .ok (.iconst 1, 1) := by decide +kernel
theorem dX7_become_46 : decode cX7_become 46 = .ok (.iload_n 2, 1) := by decide +kernel
theorem dX7_become_47 : decode cX7_become 47 = .ok (.bipush 10, 2) := by decide +kernel
theorem dX7_become_49 : decode cX7_become 49 = .ok (.irem, 1) := by decide +kernel
theorem dX7_become_50 : decode cX7_become 50 = .ok (.invokevirtual 186, 3) := by decide +kernel
theorem dX7_become_53 : decode cX7_become 53 = .ok (.iload_n 3, 1) := by decide +kernel
theorem dX7_become_54 : decode cX7_become 54 = .ok (.ireturn, 1) := by decide +kernel
theorem dX7_above_0 : decode cX7_above 0 = .ok (.iload_n 0, 1) := by decide +kernel
theorem dX7_above_1 : decode cX7_above 1 = .ok (.iconst 4, 1) := by decide +kernel
theorem dX7_above_2 : decode cX7_above 2 = .ok (.if_icmp .ge 7, 3) := by decide +kernel
theorem dX7_above_5 : decode cX7_above 5 = .ok (.iconst 0, 1) := by decide +kernel
theorem dX7_above_6 : decode cX7_above 6 = .ok (.goto 6, 3) := by decide +kernel
theorem dX7_above_9 : decode cX7_above 9 = .ok (.iload_n 0, 1) := by decide +kernel
theorem dX7_above_10 : decode cX7_above 10 = .ok (.iconst 3, 1) := by decide +kernel
theorem dX7_above_11 : decode cX7_above 11 = .ok (.isub, 1) := by decide +kernel
theorem dX7_above_12 : decode cX7_above 12 = .ok (.ireturn, 1) := by decide +kernel
theorem dX7_as_0 : decode cX7_as 0 = .ok (.aload_n 0, 1) := by decide +kernel
theorem dX7_as_1 : decode cX7_as 1 = .ok (.iload_n 1, 1) := by decide +kernel
theorem dX7_as_2 : decode cX7_as 2 = .ok (.invokevirtual 189, 3) := by decide +kernel
theorem dX7_as_5 : decode cX7_as 5 = .ok (.ifCond .eq 15, 3) := by decide +kernel
theorem dX7_as_8 : decode cX7_as 8 = .ok (.iload_n 2, 1) := by decide +kernel
theorem dX7_as_9 : decode cX7_as 9 = .ok (.i2l, 1) := by decide +kernel
theorem dX7_as_10 : decode cX7_as 10 = .ok (.lconst 0, 1) := by decide +kernel
theorem dX7_as_11 : decode cX7_as 11 = .ok (.ldc2_w 204, 3) := by decide +kernel
theorem dX7_as_14 : decode cX7_as 14 = .ok (.invokestatic 53, 3) := by decide +kernel
theorem dX7_as_17 : decode cX7_as 17 = .ok (.ifCond .ne 9, 3) := by decide +kernel
theorem dX7_as_20 : decode cX7_as 20 = .ok (.aload_n 0, 1) := by decide +kernel
theorem dX7_as_21 : decode cX7_as 21 = .ok (.iconst 1, 1) := by decide +kernel
theorem dX7_as_22 : decode cX7_as 22 = .ok (.invokevirtual 130, 3) := by decide +kernel
theorem dX7_as_25 : decode cX7_as 25 = .ok (.ireturn, 1) := by decide +kernel
theorem dX7_as_26 : decode cX7_as 26 = .ok (.aload_n 0, 1) := by decide +kernel
theorem dX7_as_27 : decode cX7_as 27 = .ok (.iload_n 1, 1) := by decide +kernel
theorem dX7_as_28 : decode cX7_as 28 = .ok (.iconst 0, 1) := by decide +kernel
theorem dX7_as_29 : decode cX7_as 29 = .ok (.invokevirtual 150, 3) := by decide +kernel
theorem dX7_as_32 : decode cX7_as 32 = .ok (.istore_n 3, 1) := by decide +kernel
theorem dX7_as_33 : decode cX7_as 33 = .ok (.iload_n 2, 1) := by decide +kernel
theorem dX7_as_34 : decode cX7_as 34 = .ok (.ifCond .eq 16, 3) := by decide +kernel
theorem dX7_as_37 : decode cX7_as 37 = .ok (.iload_n 2, 1) := by decide +kernel
theorem dX7_as_38 : decode cX7_as 38 = .ok (.iload_n 3, 1) := by decide +kernel
theorem dX7_as_39 : decode cX7_as 39 = .ok (.if_icmp .eq 11, 3) := by decide +kernel
theorem dX7_as_42 : decode cX7_as 42 = .ok (.iload_n 2, 1) := by decide +kernel
theorem dX7_as_43 : decode cX7_as 43 = .ok (.iload_n 3, 1) := by decide +kernel
theorem dX7_as_44 : decode cX7_as 44 = .ok (.invokestatic 206, 3) := by decide +kernel
theorem dX7_as_47 : decode cX7_as 47 = .ok (.if_icmp .ne 12, 3) := by decide +kernel
theorem dX7_as_50 : decode cX7_as 50 = .ok (.aload_n 0, 1) := by decide +kernel
theorem dX7_as_51 : decode cX7_as 51 = .ok (.iload_n 1, 1) := by decide +kernel
theorem dX7_as_52 : decode cX7_as 52 = .ok (.iconst 1, 1) := by decide +kernel
theorem dX7_as_53 : decode cX7_as 53 = .ok (.invokevirtual 150, 3) := by decide +kernel
theorem dX7_as_56 : decode cX7_as 56 = .ok (.goto 8, 3) := by decide +kernel
theorem dX7_as_59 : decode cX7_as 59 = .ok (.aload_n 0, 1) := by decide +kernel
theorem dX7_as_60 : decode cX7_as 60 = .ok (.iconst 5, 1) := by decide +kernel
theorem dX7_as_61 : decode cX7_as 61 = .ok (.invokevirtual 130, 3) := by decide +kernel
theorem dX7_as_64 : decode cX7_as 64 = .ok (.ireturn, 1) := by decide +kernel
theorem dX7_motion_0 : decode cX7_motion 0 = .ok (.iload_n 1, 1) := by decide +kernel
theorem dX7_motion_1 : decode cX7_motion 1 = .ok (.i2l, 1) := by decide +kernel
theorem dX7_motion_2 : decode cX7_motion 2 = .ok (.lconst 0, 1) := by decide +kernel
theorem dX7_motion_3 : decode cX7_motion 3 = .ok (.ldc2_w 202, 3) := by decide +kernel
theorem dX7_motion_6 : decode cX7_motion 6 = .ok (.invokestatic 53, 3) := by decide +kernel
theorem dX7_motion_9 : decode cX7_motion 9 = .ok (.ifCond .eq 15, 3) := by decide +kernel
theorem dX7_motion_12 : decode cX7_motion 12 = .ok (.iload_n 2, 1) := by decide +kernel
theorem dX7_motion_13 : decode cX7_motion 13 = .ok (.i2l, 1) := by decide +kernel
theorem dX7_motion_14 : decode cX7_motion 14 = .ok (.lconst 0, 1) := by decide +kernel
theorem dX7_motion_15 : decode cX7_motion 15 = .ok (.ldc2_w 133, 3) := by decide +kernel
theorem dX7_motion_18 : decode cX7_motion 18 = .ok (.invokestatic 53, 3) := by decide +kernel
theorem dX7_motion_21 : decode cX7_motion 21 = .ok (.ifCond .ne 9, 3) := by decide +kernel
theorem dX7_motion_24 : decode cX7_motion 24 = .ok (.aload_n 0, 1) := by decide +kernel
theorem dX7_motion_25 : decode cX7_motion 25 = .ok (.iconst 1, 1) := by decide +kernel
theorem dX7_motion_26 : decode cX7_motion 26 = .ok (.invokevirtual 130, 3) := by decide +kernel
theorem dX7_motion_29 : decode cX7_motion 29 = .ok (.ireturn, 1) := by decide +kernel
theorem dX7_motion_30 : decode cX7_motion 30 = .ok (.aload_n 0, 1) := by decide +kernel
theorem dX7_motion_31 : decode cX7_motion 31 = .ok (.getfield 7, 3) := by decide +kernel
theorem dX7_motion_34 : decode cX7_motion 34 = .ok (.iconst 1, 1) := by decide +kernel
theorem dX7_motion_35 : decode cX7_motion 35 = .ok (.iaload, 1) := by decide +kernel
theorem dX7_motion_36 : decode cX7_motion 36 = .ok (.bipush 6, 2) := by decide +kernel
theorem dX7_motion_38 : decode cX7_motion 38 = .ok (.if_icmp .ne 9, 3) := by decide +kernel
theorem dX7_motion_41 : decode cX7_motion 41 = .ok (.aload_n 0, 1) := by decide +kernel
theorem dX7_motion_42 : decode cX7_motion 42 = .ok (.iconst 4, 1) := by decide +kernel
theorem dX7_motion_43 : decode cX7_motion 43 = .ok (.invokevirtual 130, 3) := by decide +kernel
theorem dX7_motion_46 : decode cX7_motion 46 = .ok (.ireturn, 1) := by decide +kernel
theorem dX7_motion_47 : decode cX7_motion 47 = .ok (.bipush 58, 2) := by decide +kernel
theorem dX7_motion_49 : decode cX7_motion 49 = .ok (.iconst 3, 1) := by decide +kernel
theorem dX7_motion_50 : decode cX7_motion 50 = .ok (.aload_n 0, 1) := by decide +kernel
theorem dX7_motion_51 : decode cX7_motion 51 = .ok (.getfield 7, 3) := by decide +kernel
theorem dX7_motion_54 : decode cX7_motion 54 = .ok (.iconst 1, 1) := by decide +kernel
theorem dX7_motion_55 : decode cX7_motion 55 = .ok (.iaload, 1) := by decide +kernel
theorem dX7_motion_56 : decode cX7_motion 56 = .ok (.imul, 1) := by decide +kernel
theorem dX7_motion_57 : decode cX7_motion 57 = .ok (.iadd, 1) := by decide +kernel
theorem dX7_motion_58 : decode cX7_motion 58 = .ok (.istore_n 3, 1) := by decide +kernel
theorem dX7_motion_59 : decode cX7_motion 59 = .ok (.aload_n 0, 1) := by decide +kernel
theorem dX7_motion_60 : decode cX7_motion 60 = .ok (.getfield 7, 3) := by decide +kernel
theorem dX7_motion_63 : decode cX7_motion 63 = .ok (.iload_n 3, 1) := by decide +kernel
theorem dX7_motion_64 : decode cX7_motion 64 = .ok (.iconst 0, 1) := by decide +kernel
theorem dX7_motion_65 : decode cX7_motion 65 = .ok (.iadd, 1) := by decide +kernel
theorem dX7_motion_66 : decode cX7_motion 66 = .ok (.iload_n 1, 1) := by decide +kernel
theorem dX7_motion_67 : decode cX7_motion 67 = .ok (.iastore, 1) := by decide +kernel
theorem dX7_motion_68 : decode cX7_motion 68 = .ok (.aload_n 0, 1) := by decide +kernel
theorem dX7_motion_69 : decode cX7_motion 69 = .ok (.getfield 7, 3) := by decide +kernel
theorem dX7_motion_72 : decode cX7_motion 72 = .ok (.iload_n 3, 1) := by decide +kernel
theorem dX7_motion_73 : decode cX7_motion 73 = .ok (.iconst 1, 1) := by decide +kernel
theorem dX7_motion_74 : decode cX7_motion 74 = .ok (.iadd, 1) := by decide +kernel
theorem dX7_motion_75 : decode cX7_motion 75 = .ok (.iload_n 2, 1) := by decide +kernel
theorem dX7_motion_76 : decode cX7_motion 76 = .ok (.iastore, 1) := by decide +kernel
theorem dX7_motion_77 : decode cX7_motion 77 = .ok (.aload_n 0, 1) := by decide +kernel
theorem dX7_motion_78 : decode cX7_motion 78 = .ok (.getfield 7, 3) := by decide +kernel
theorem dX7_motion_81 : decode cX7_motion 81 = .ok (.iload_n 3, 1) := by decide +kernel
theorem dX7_motion_82 : decode cX7_motion 82 = .ok (.iconst 2, 1) := by decide +kernel
theorem dX7_motion_83 : decode cX7_motion 83 = .ok (.iadd, 1) := by decide +kernel
theorem dX7_motion_84 : decode cX7_motion 84 = .ok (.iconst 0, 1) := by decide +kernel
theorem dX7_motion_85 : decode cX7_motion 85 = .ok (.iastore, 1) := by decide +kernel
theorem dX7_motion_86 : decode cX7_motion 86 = .ok (.aload_n 0, 1) := by decide +kernel
theorem dX7_motion_87 : decode cX7_motion 87 = .ok (.getfield 7, 3) := by decide +kernel
theorem dX7_motion_90 : decode cX7_motion 90 = .ok (.iconst 1, 1) := by decide +kernel
theorem dX7_motion_91 : decode cX7_motion 91 = .ok (.dup2, 1) := by decide +kernel
theorem dX7_motion_92 : decode cX7_motion 92 = .ok (.iaload, 1) := by decide +kernel
theorem dX7_motion_93 : decode cX7_motion 93 = .ok (.iconst 1, 1) := by decide +kernel
theorem dX7_motion_94 : decode cX7_motion 94 = .ok (.iadd, 1) := by decide +kernel
theorem dX7_motion_95 : decode cX7_motion 95 = .ok (.iastore, 1) := by decide +kernel
theorem dX7_motion_96 : decode cX7_motion 96 = .ok (.aload_n 0, 1) := by decide +kernel
theorem dX7_motion_97 : decode cX7_motion 97 = .ok (.getfield 7, 3) := by decide +kernel
theorem dX7_motion_100 : decode cX7_motion 100 = .ok (.iconst 1, 1) := by decide +kernel
theorem dX7_motion_101 : decode cX7_motion 101 = .ok (.iaload, 1) := by decide +kernel
theorem dX7_motion_102 : decode cX7_motion 102 = .ok (.iconst 1, 1) := by decide +kernel
theorem dX7_motion_103 : decode cX7_motion 103 = .ok (.isub, 1) := by decide +kernel
theorem dX7_motion_104 : decode cX7_motion 104 = .ok (.ireturn, 1) := by decide +kernel
theorem dX7_ofMotion_0 : decode cX7_ofMotion 0 = .ok (.aload_n 0, 1) := by decide +kernel
theorem dX7_ofMotion_1 : decode cX7_ofMotion 1 = .ok (.iload_n 1, 1) := by decide +kernel
theorem dX7_ofMotion_2 : decode cX7_ofMotion 2 = .ok (.invokevirtual 209, 3) := by decide +kernel
theorem dX7_ofMotion_5 : decode cX7_ofMotion 5 = .ok (.ifCond .eq 15, 3) := by decide +kernel
theorem dX7_ofMotion_8 : decode cX7_ofMotion 8 = .ok (.iload_n 2, 1) := by decide +kernel
theorem dX7_ofMotion_9 : decode cX7_ofMotion 9 = .ok (.i2l, 1) := by decide +kernel
theorem dX7_ofMotion_10 : decode cX7_ofMotion 10 = .ok (.lconst 0, 1) := by decide +kernel
theorem dX7_ofMotion_11 : decode cX7_ofMotion 11 = .ok (.ldc2_w 212, 3) := by decide +kernel
theorem dX7_ofMotion_14 : decode cX7_ofMotion 14 = .ok (.invokestatic 53, 3) := by decide +kernel
theorem dX7_ofMotion_17 : decode cX7_ofMotion 17 = .ok (.ifCond .ne 9, 3) := by decide +kernel
theorem dX7_ofMotion_20 : decode cX7_ofMotion 20 = .ok (.aload_n 0, 1) := by decide +kernel
theorem dX7_ofMotion_21 : decode cX7_ofMotion 21 = .ok (.iconst 1, 1) := by decide +kernel
theorem dX7_ofMotion_22 : decode cX7_ofMotion 22 = .ok (.invokevirtual 130, 3) := by decide +kernel
theorem dX7_ofMotion_25 : decode cX7_ofMotion 25 = .ok (.ireturn, 1) := by decide +kernel
theorem dX7_ofMotion_26 : decode cX7_ofMotion 26 = .ok (.iload_n 2, 1) := by decide +kernel
theorem dX7_ofMotion_27 : decode cX7_ofMotion 27 = .ok (.iconst 3, 1) := by decide +kernel
theorem dX7_ofMotion_28 : decode cX7_ofMotion 28 = .ok (.if_icmp .ge 12, 3) := by decide +kernel
theorem dX7_ofMotion_31 : decode cX7_ofMotion 31 = .ok (.aload_n 0, 1) := by decide +kernel
theorem dX7_ofMotion_32 : decode cX7_ofMotion 32 = .ok (.iload_n 1, 1) := by decide +kernel
theorem dX7_ofMotion_33 : decode cX7_ofMotion 33 = .ok (.iload_n 2, 1) := by decide +kernel
theorem dX7_ofMotion_34 : decode cX7_ofMotion 34 = .ok (.invokevirtual 172, 3) := by decide +kernel
theorem dX7_ofMotion_37 : decode cX7_ofMotion 37 = .ok (.goto 32, 3) := by decide +kernel
theorem dX7_ofMotion_40 : decode cX7_ofMotion 40 = .ok (.iload_n 2, 1) := by decide +kernel
theorem dX7_ofMotion_41 : decode cX7_ofMotion 41 = .ok (.iconst 5, 1) := by decide +kernel
theorem dX7_ofMotion_42 : decode cX7_ofMotion 42 = .ok (.if_icmp .ge 14, 3) := by decide +kernel
theorem dX7_ofMotion_45 : decode cX7_ofMotion 45 = .ok (.aload_n 0, 1) := by decide +kernel
theorem dX7_ofMotion_46 : decode cX7_ofMotion 46 = .ok (.iload_n 1, 1) := by decide +kernel
theorem dX7_ofMotion_47 : decode cX7_ofMotion 47 = .ok (.iconst 4, 1) := by decide +kernel
theorem dX7_ofMotion_48 : decode cX7_ofMotion 48 = .ok (.iload_n 2, 1) := by decide +kernel
theorem dX7_ofMotion_49 : decode cX7_ofMotion 49 = .ok (.isub, 1) := by decide +kernel
theorem dX7_ofMotion_50 : decode cX7_ofMotion 50 = .ok (.invokevirtual 178, 3) := by decide +kernel
theorem dX7_ofMotion_53 : decode cX7_ofMotion 53 = .ok (.goto 16, 3) := by decide +kernel
theorem dX7_ofMotion_56 : decode cX7_ofMotion 56 = .ok (.aload_n 0, 1) := by decide +kernel
theorem dX7_ofMotion_57 : decode cX7_ofMotion 57 = .ok (.iload_n 1, 1) := by decide +kernel
theorem dX7_ofMotion_58 : decode cX7_ofMotion 58 = .ok (.invokevirtual 214, 3) := by decide +kernel
theorem dX7_ofMotion_61 : decode cX7_ofMotion 61 = .ok (.ifCond .eq 7, 3) := by decide +kernel
theorem dX7_ofMotion_64 : decode cX7_ofMotion 64 = .ok (.iconst 1, 1) := by decide +kernel
theorem dX7_ofMotion_65 : decode cX7_ofMotion 65 = .ok (.goto 4, 3) := by decide +kernel
theorem dX7_ofMotion_68 : decode cX7_ofMotion 68 = .ok (.iconst 0, 1) := by decide +kernel
theorem dX7_ofMotion_69 : decode cX7_ofMotion 69 = .ok (.ireturn, 1) := by decide +kernel
theorem dX7_side_0 : decode cX7_side 0 = .ok (.aload_n 0, 1) := by decide +kernel
theorem dX7_side_1 : decode cX7_side 1 = .ok (.iload_n 1, 1) := by decide +kernel
theorem dX7_side_2 : decode cX7_side 2 = .ok (.invokevirtual 209, 3) := by decide +kernel
theorem dX7_side_5 : decode cX7_side 5 = .ok (.ifCond .eq 15, 3) := by decide +kernel
theorem dX7_side_8 : decode cX7_side 8 = .ok (.iload_n 2, 1) := by decide +kernel
theorem dX7_side_9 : decode cX7_side 9 = .ok (.i2l, 1) := by decide +kernel
theorem dX7_side_10 : decode cX7_side 10 = .ok (.lconst 0, 1) := by decide +kernel
theorem dX7_side_11 : decode cX7_side 11 = .ok (.ldc2_w 133, 3) := by decide +kernel
theorem dX7_side_14 : decode cX7_side 14 = .ok (.invokestatic 53, 3) := by decide +kernel
theorem dX7_side_17 : decode cX7_side 17 = .ok (.ifCond .ne 9, 3) := by decide +kernel
theorem dX7_side_20 : decode cX7_side 20 = .ok (.aload_n 0, 1) := by decide +kernel
theorem dX7_side_21 : decode cX7_side 21 = .ok (.iconst 1, 1) := by decide +kernel
theorem dX7_side_22 : decode cX7_side 22 = .ok (.invokevirtual 130, 3) := by decide +kernel
theorem dX7_side_25 : decode cX7_side 25 = .ok (.ireturn, 1) := by decide +kernel
theorem dX7_side_26 : decode cX7_side 26 = .ok (.aload_n 0, 1) := by decide +kernel
theorem dX7_side_27 : decode cX7_side 27 = .ok (.iload_n 1, 1) := by decide +kernel
theorem dX7_side_28 : decode cX7_side 28 = .ok (.iconst 1, 1) := by decide +kernel
theorem dX7_side_29 : decode cX7_side 29 = .ok (.invokevirtual 172, 3) := by decide +kernel
theorem dX7_side_32 : decode cX7_side 32 = .ok (.istore_n 3, 1) := by decide +kernel
theorem dX7_side_33 : decode cX7_side 33 = .ok (.aload_n 0, 1) := by decide +kernel
theorem dX7_side_34 : decode cX7_side 34 = .ok (.getfield 7, 3) := by decide +kernel
theorem dX7_side_37 : decode cX7_side 37 = .ok (.bipush 58, 2) := by decide +kernel
theorem dX7_side_39 : decode cX7_side 39 = .ok (.iconst 3, 1) := by decide +kernel
theorem dX7_side_40 : decode cX7_side 40 = .ok (.iload_n 1, 1) := by decide +kernel
theorem dX7_side_41 : decode cX7_side 41 = .ok (.imul, 1) := by decide +kernel
theorem dX7_side_42 : decode cX7_side 42 = .ok (.iadd, 1) := by decide +kernel
theorem dX7_side_43 : decode cX7_side 43 = .ok (.iconst 1, 1) := by decide +kernel
theorem dX7_side_44 : decode cX7_side 44 = .ok (.iadd, 1) := by decide +kernel
theorem dX7_side_45 : decode cX7_side 45 = .ok (.iload_n 2, 1) := by decide +kernel
theorem dX7_side_46 : decode cX7_side 46 = .ok (.iastore, 1) := by decide +kernel
theorem dX7_side_47 : decode cX7_side 47 = .ok (.iload_n 3, 1) := by decide +kernel
theorem dX7_side_48 : decode cX7_side 48 = .ok (.ireturn, 1) := by decide +kernel
theorem dX7_set_0 : decode cX7_set 0 = .ok (.iload_n 1, 1) := by decide +kernel
theorem dX7_set_1 : decode cX7_set 1 = .ok (.i2l, 1) := by decide +kernel
theorem dX7_set_2 : decode cX7_set 2 = .ok (.lconst 0, 1) := by decide +kernel
theorem dX7_set_3 : decode cX7_set 3 = .ok (.lconst 1, 1) := by decide +kernel
theorem dX7_set_4 : decode cX7_set 4 = .ok (.invokestatic 53, 3) := by decide +kernel
theorem dX7_set_7 : decode cX7_set 7 = .ok (.ifCond .eq 25, 3) := by decide +kernel
theorem dX7_set_10 : decode cX7_set 10 = .ok (.iload_n 2, 1) := by decide +kernel
theorem dX7_set_11 : decode cX7_set 11 = .ok (.i2l, 1) := by decide +kernel
theorem dX7_set_12 : decode cX7_set 12 = .ok (.lconst 0, 1) := by decide +kernel
theorem dX7_set_13 : decode cX7_set 13 = .ok (.iload_n 1, 1) := by decide +kernel
theorem dX7_set_14 : decode cX7_set 14 = .ok (.ifCond .ne 9, 3) := by decide +kernel
theorem dX7_set_17 : decode cX7_set 17 = .ok (.ldc2_w 192, 3) := by decide +kernel
theorem dX7_set_20 : decode cX7_set 20 = .ok (.goto 6, 3) := by decide +kernel
theorem dX7_set_23 : decode cX7_set 23 = .ok (.ldc2_w 202, 3) := by decide +kernel
theorem dX7_set_26 : decode cX7_set 26 = .ok (.invokestatic 53, 3) := by decide +kernel
theorem dX7_set_29 : decode cX7_set 29 = .ok (.ifCond .ne 9, 3) := by decide +kernel
theorem dX7_set_32 : decode cX7_set 32 = .ok (.aload_n 0, 1) := by decide +kernel
theorem dX7_set_33 : decode cX7_set 33 = .ok (.iconst 1, 1) := by decide +kernel
theorem dX7_set_34 : decode cX7_set 34 = .ok (.invokevirtual 130, 3) := by decide +kernel
theorem dX7_set_37 : decode cX7_set 37 = .ok (.ireturn, 1) := by decide +kernel
theorem dX7_set_38 : decode cX7_set 38 = .ok (.iload_n 1, 1) := by decide +kernel
theorem dX7_set_39 : decode cX7_set 39 = .ok (.ifCond .ne 7, 3) := by decide +kernel
theorem dX7_set_42 : decode cX7_set 42 = .ok (.iconst 5, 1) := by decide +kernel
theorem dX7_set_43 : decode cX7_set 43 = .ok (.goto 4, 3) := by decide +kernel
theorem dX7_set_46 : decode cX7_set 46 = .ok (.iconst 4, 1) := by decide +kernel
theorem dX7_set_47 : decode cX7_set 47 = .ok (.istore_n 3, 1) := by decide +kernel
theorem dX7_set_48 : decode cX7_set 48 = .ok (.aload_n 0, 1) := by decide +kernel
theorem dX7_set_49 : decode cX7_set 49 = .ok (.getfield 7, 3) := by decide +kernel
theorem dX7_set_52 : decode cX7_set 52 = .ok (.iload_n 3, 1) := by decide +kernel
theorem dX7_set_53 : decode cX7_set 53 = .ok (.iaload, 1) := by decide +kernel
theorem dX7_set_54 : decode cX7_set 54 = .ok (.istore 4, 2) := by decide +kernel
theorem dX7_set_56 : decode cX7_set 56 = .ok (.aload_n 0, 1) := by decide +kernel
theorem dX7_set_57 : decode cX7_set 57 = .ok (.getfield 7, 3) := by decide +kernel
theorem dX7_set_60 : decode cX7_set 60 = .ok (.iload_n 3, 1) := by decide +kernel
theorem dX7_set_61 : decode cX7_set 61 = .ok (.iload_n 2, 1) := by decide +kernel
theorem dX7_set_62 : decode cX7_set 62 = .ok (.iastore, 1) := by decide +kernel
theorem dX7_set_63 : decode cX7_set 63 = .ok (.iload 4, 2) := by decide +kernel
theorem dX7_set_65 : decode cX7_set 65 = .ok (.ireturn, 1) := by decide +kernel
theorem dX7_votes_0 : decode cX7_votes 0 = .ok (.aload_n 0, 1) := by decide +kernel
theorem dX7_votes_1 : decode cX7_votes 1 = .ok (.iload_n 1, 1) := by decide +kernel
theorem dX7_votes_2 : decode cX7_votes 2 = .ok (.invokevirtual 214, 3) := by decide +kernel
theorem dX7_votes_5 : decode cX7_votes 5 = .ok (.istore_n 2, 1) := by decide +kernel
theorem dX7_votes_6 : decode cX7_votes 6 = .ok (.iconst 0, 1) := by decide +kernel
theorem dX7_votes_7 : decode cX7_votes 7 = .ok (.istore_n 3, 1) := by decide +kernel
theorem dX7_votes_8 : decode cX7_votes 8 = .ok (.iload_n 3, 1) := by decide +kernel
theorem dX7_votes_9 : decode cX7_votes 9 = .ok (.aload_n 0, 1) := by decide +kernel
theorem dX7_votes_10 : decode cX7_votes 10 = .ok (.getfield 7, 3) := by decide +kernel
theorem dX7_votes_13 : decode cX7_votes 13 = .ok (.iconst 0, 1) := by decide +kernel
theorem dX7_votes_14 : decode cX7_votes 14 = .ok (.iaload, 1) := by decide +kernel
theorem dX7_votes_15 : decode cX7_votes 15 = .ok (.if_icmp .ge 124, 3) := by decide +kernel
theorem dX7_votes_18 : decode cX7_votes 18 = .ok (.aload_n 0, 1) := by decide +kernel
theorem dX7_votes_19 : decode cX7_votes 19 = .ok (.iload_n 3, 1) := by decide +kernel
theorem dX7_votes_20 : decode cX7_votes 20 = .ok (.invokevirtual 169, 3) := by decide +kernel
theorem dX7_votes_23 : decode cX7_votes 23 = .ok (.aload_n 0, 1) := by decide +kernel
theorem dX7_votes_24 : decode cX7_votes 24 = .ok (.iload_n 3, 1) := by decide +kernel
theorem dX7_votes_25 : decode cX7_votes 25 = .ok (.iconst 2, 1) := by decide +kernel
theorem dX7_votes_26 : decode cX7_votes 26 = .ok (.aload_n 0, 1) := by decide +kernel
theorem dX7_votes_27 : decode cX7_votes 27 = .ok (.iload_n 3, 1) := by decide +kernel
theorem dX7_votes_28 : decode cX7_votes 28 = .ok (.iconst 2, 1) := by decide +kernel
theorem dX7_votes_29 : decode cX7_votes 29 = .ok (.invokevirtual 150, 3) := by decide +kernel
theorem dX7_votes_32 : decode cX7_votes 32 = .ok (.aload_n 0, 1) := by decide +kernel
theorem dX7_votes_33 : decode cX7_votes 33 = .ok (.getfield 156, 3) := by decide +kernel
theorem dX7_votes_36 : decode cX7_votes 36 = .ok (.isub, 1) := by decide +kernel
theorem dX7_votes_37 : decode cX7_votes 37 = .ok (.invokevirtual 186, 3) := by decide +kernel
theorem dX7_votes_40 : decode cX7_votes 40 = .ok (.aload_n 0, 1) := by decide +kernel
theorem dX7_votes_41 : decode cX7_votes 41 = .ok (.iload_n 3, 1) := by decide +kernel
theorem dX7_votes_42 : decode cX7_votes 42 = .ok (.iconst 3, 1) := by decide +kernel
theorem dX7_votes_43 : decode cX7_votes 43 = .ok (.aload_n 0, 1) := by decide +kernel
theorem dX7_votes_44 : decode cX7_votes 44 = .ok (.iload_n 3, 1) := by decide +kernel
theorem dX7_votes_45 : decode cX7_votes 45 = .ok (.iconst 3, 1) := by decide +kernel
theorem dX7_votes_46 : decode cX7_votes 46 = .ok (.invokevirtual 150, 3) := by decide +kernel
theorem dX7_votes_49 : decode cX7_votes 49 = .ok (.aload_n 0, 1) := by decide +kernel
theorem dX7_votes_50 : decode cX7_votes 50 = .ok (.getfield 159, 3) := by decide +kernel
theorem dX7_votes_53 : decode cX7_votes 53 = .ok (.isub, 1) := by decide +kernel
theorem dX7_votes_54 : decode cX7_votes 54 = .ok (.invokevirtual 186, 3) := by decide +kernel
theorem dX7_votes_57 : decode cX7_votes 57 = .ok (.aload_n 0, 1) := by decide +kernel
theorem dX7_votes_58 : decode cX7_votes 58 = .ok (.iload_n 3, 1) := by decide +kernel
theorem dX7_votes_59 : decode cX7_votes 59 = .ok (.iconst 4, 1) := by decide +kernel
theorem dX7_votes_60 : decode cX7_votes 60 = .ok (.aload_n 0, 1) := by decide +kernel
theorem dX7_votes_61 : decode cX7_votes 61 = .ok (.iload_n 3, 1) := by decide +kernel
theorem dX7_votes_62 : decode cX7_votes 62 = .ok (.iconst 4, 1) := by decide +kernel
theorem dX7_votes_63 : decode cX7_votes 63 = .ok (.invokevirtual 150, 3) := by decide +kernel
theorem dX7_votes_66 : decode cX7_votes 66 = .ok (.aload_n 0, 1) := by decide +kernel
theorem dX7_votes_67 : decode cX7_votes 67 = .ok (.getfield 156, 3) := by decide +kernel
theorem dX7_votes_70 : decode cX7_votes 70 = .ok (.iadd, 1) := by decide +kernel
theorem dX7_votes_71 : decode cX7_votes 71 = .ok (.aload_n 0, 1) := by decide +kernel
theorem dX7_votes_72 : decode cX7_votes 72 = .ok (.getfield 159, 3) := by decide +kernel
theorem dX7_votes_75 : decode cX7_votes 75 = .ok (.iadd, 1) := by decide +kernel
theorem dX7_votes_76 : decode cX7_votes 76 = .ok (.iconst 0, 1) := by decide +kernel
theorem dX7_votes_77 : decode cX7_votes 77 = .ok (.bipush 99, 2) := by decide +kernel
theorem dX7_votes_79 : decode cX7_votes 79 = .ok (.invokestatic 143, 3) := by decide +kernel
theorem dX7_votes_82 : decode cX7_votes 82 = .ok (.invokevirtual 186, 3) := by decide +kernel
theorem dX7_votes_85 : decode cX7_votes 85 = .ok (.aload_n 0, 1) := by decide +kernel
theorem dX7_votes_86 : decode cX7_votes 86 = .ok (.getfield 7, 3) := by decide +kernel
theorem dX7_votes_89 : decode cX7_votes 89 = .ok (.iconst 2, 1) := by decide +kernel
theorem dX7_votes_90 : decode cX7_votes 90 = .ok (.aload_n 0, 1) := by decide +kernel
theorem dX7_votes_91 : decode cX7_votes 91 = .ok (.getfield 7, 3) := by decide +kernel
theorem dX7_votes_94 : decode cX7_votes 94 = .ok (.iconst 2, 1) := by decide +kernel
theorem dX7_votes_95 : decode cX7_votes 95 = .ok (.iaload, 1) := by decide +kernel
theorem dX7_votes_96 : decode cX7_votes 96 = .ok (.aload_n 0, 1) := by decide +kernel
theorem dX7_votes_97 : decode cX7_votes 97 = .ok (.getfield 156, 3) := by decide +kernel
theorem dX7_votes_100 : decode cX7_votes 100 = .ok (.iadd, 1) := by decide +kernel
theorem dX7_votes_101 : decode cX7_votes 101 = .ok (.iconst 0, 1) := by decide +kernel
theorem dX7_votes_102 : decode cX7_votes 102 = .ok (.sipush 999, 3) := by decide +kernel
theorem dX7_votes_105 : decode cX7_votes 105 = .ok (.invokestatic 143, 3) := by decide +kernel
theorem dX7_votes_108 : decode cX7_votes 108 = .ok (.iastore, 1) := by decide +kernel
theorem dX7_votes_109 : decode cX7_votes 109 = .ok (.aload_n 0, 1) := by decide +kernel
theorem dX7_votes_110 : decode cX7_votes 110 = .ok (.getfield 7, 3) := by decide +kernel
theorem dX7_votes_113 : decode cX7_votes 113 = .ok (.iconst 3, 1) := by decide +kernel
theorem dX7_votes_114 : decode cX7_votes 114 = .ok (.aload_n 0, 1) := by decide +kernel
theorem dX7_votes_115 : decode cX7_votes 115 = .ok (.getfield 7, 3) := by decide +kernel
theorem dX7_votes_118 : decode cX7_votes 118 = .ok (.iconst 3, 1) := by decide +kernel
theorem dX7_votes_119 : decode cX7_votes 119 = .ok (.iaload, 1) := by decide +kernel
theorem dX7_votes_120 : decode cX7_votes 120 = .ok (.aload_n 0, 1) := by decide +kernel
theorem dX7_votes_121 : decode cX7_votes 121 = .ok (.getfield 159, 3) := by decide +kernel
theorem dX7_votes_124 : decode cX7_votes 124 = .ok (.iadd, 1) := by decide +kernel
theorem dX7_votes_125 : decode cX7_votes 125 = .ok (.iconst 0, 1) := by decide +kernel
theorem dX7_votes_126 : decode cX7_votes 126 = .ok (.sipush 999, 3) := by decide +kernel
theorem dX7_votes_129 : decode cX7_votes 129 = .ok (.invokestatic 143, 3) := by decide +kernel
theorem dX7_votes_132 : decode cX7_votes 132 = .ok (.iastore, 1) := by decide +kernel
theorem dX7_votes_133 : decode cX7_votes 133 = .ok (.iinc 3 1, 3) := by decide +kernel
theorem dX7_votes_136 : decode cX7_votes 136 = .ok (.goto (-128), 3) := by decide +kernel
theorem dX7_votes_139 : decode cX7_votes 139 = .ok (.iload_n 2, 1) := by decide +kernel
theorem dX7_votes_140 : decode cX7_votes 140 = .ok (.ifCond .eq 17, 3) := by decide +kernel
theorem dX7_votes_143 : decode cX7_votes 143 = .ok (.aload_n 0, 1) := by decide +kernel
theorem dX7_votes_144 : decode cX7_votes 144 = .ok (.getfield 7, 3) := by decide +kernel
theorem dX7_votes_147 : decode cX7_votes 147 = .ok (.bipush 58, 2) := by decide +kernel
theorem dX7_votes_149 : decode cX7_votes 149 = .ok (.iconst 3, 1) := by decide +kernel
theorem dX7_votes_150 : decode cX7_votes 150 = .ok (.iload_n 1, 1) := by decide +kernel
theorem dX7_votes_151 : decode cX7_votes 151 = .ok (.imul, 1) := by decide +kernel
theorem dX7_votes_152 : decode cX7_votes 152 = .ok (.iadd, 1) := by decide +kernel
theorem dX7_votes_153 : decode cX7_votes 153 = .ok (.iconst 2, 1) := by decide +kernel
theorem dX7_votes_154 : decode cX7_votes 154 = .ok (.iadd, 1) := by decide +kernel
theorem dX7_votes_155 : decode cX7_votes 155 = .ok (.iconst 1, 1) := by decide +kernel
theorem dX7_votes_156 : decode cX7_votes 156 = .ok (.iastore, 1) := by decide +kernel
theorem dX7_votes_157 : decode cX7_votes 157 = .ok (.iload_n 2, 1) := by decide +kernel
theorem dX7_votes_158 : decode cX7_votes 158 = .ok (.ireturn, 1) := by decide +kernel
theorem dX7_vote_0 : decode cX7_vote 0 = .ok (.aload_n 0, 1) := by decide +kernel
theorem dX7_vote_1 : decode cX7_vote 1 = .ok (.iload_n 1, 1) := by decide +kernel
theorem dX7_vote_2 : decode cX7_vote 2 = .ok (.invokevirtual 209, 3) := by decide +kernel
theorem dX7_vote_5 : decode cX7_vote 5 = .ok (.ifCond .ne 9, 3) := by decide +kernel
theorem dX7_vote_8 : decode cX7_vote 8 = .ok (.aload_n 0, 1) := by decide +kernel
theorem dX7_vote_9 : decode cX7_vote 9 = .ok (.iconst 1, 1) := by decide +kernel
theorem dX7_vote_10 : decode cX7_vote 10 = .ok (.invokevirtual 130, 3) := by decide +kernel
theorem dX7_vote_13 : decode cX7_vote 13 = .ok (.ireturn, 1) := by decide +kernel
theorem dX7_vote_14 : decode cX7_vote 14 = .ok (.aload_n 0, 1) := by decide +kernel
theorem dX7_vote_15 : decode cX7_vote 15 = .ok (.iload_n 1, 1) := by decide +kernel
theorem dX7_vote_16 : decode cX7_vote 16 = .ok (.invokevirtual 217, 3) := by decide +kernel
theorem dX7_vote_19 : decode cX7_vote 19 = .ok (.ifCond .eq 7, 3) := by decide +kernel
theorem dX7_vote_22 : decode cX7_vote 22 = .ok (.iconst 1, 1) := by decide +kernel
theorem dX7_vote_23 : decode cX7_vote 23 = .ok (.goto 4, 3) := by decide +kernel
theorem dX7_vote_26 : decode cX7_vote 26 = .ok (.iconst 0, 1) := by decide +kernel
theorem dX7_vote_27 : decode cX7_vote 27 = .ok (.ireturn, 1) := by decide +kernel
theorem dX7_sew_0 : decode cX7_sew 0 = .ok (.aload_n 0, 1) := by decide +kernel
theorem dX7_sew_1 : decode cX7_sew 1 = .ok (.iload_n 1, 1) := by decide +kernel
theorem dX7_sew_2 : decode cX7_sew 2 = .ok (.invokevirtual 189, 3) := by decide +kernel
theorem dX7_sew_5 : decode cX7_sew 5 = .ok (.ifCond .eq 26, 3) := by decide +kernel
theorem dX7_sew_8 : decode cX7_sew 8 = .ok (.iload_n 2, 1) := by decide +kernel
theorem dX7_sew_9 : decode cX7_sew 9 = .ok (.i2l, 1) := by decide +kernel
theorem dX7_sew_10 : decode cX7_sew 10 = .ok (.lconst 0, 1) := by decide +kernel
theorem dX7_sew_11 : decode cX7_sew 11 = .ok (.lconst 1, 1) := by decide +kernel
theorem dX7_sew_12 : decode cX7_sew 12 = .ok (.invokestatic 53, 3) := by decide +kernel
theorem dX7_sew_15 : decode cX7_sew 15 = .ok (.ifCond .eq 16, 3) := by decide +kernel
theorem dX7_sew_18 : decode cX7_sew 18 = .ok (.aload_n 0, 1) := by decide +kernel
theorem dX7_sew_19 : decode cX7_sew 19 = .ok (.iload_n 1, 1) := by decide +kernel
theorem dX7_sew_20 : decode cX7_sew 20 = .ok (.iconst 2, 1) := by decide +kernel
theorem dX7_sew_21 : decode cX7_sew 21 = .ok (.iload_n 2, 1) := by decide +kernel
theorem dX7_sew_22 : decode cX7_sew 22 = .ok (.iadd, 1) := by decide +kernel
theorem dX7_sew_23 : decode cX7_sew 23 = .ok (.invokevirtual 150, 3) := by decide +kernel
theorem dX7_sew_26 : decode cX7_sew 26 = .ok (.bipush 9, 2) := by decide +kernel
theorem dX7_sew_28 : decode cX7_sew 28 = .ok (.if_icmp .ne 9, 3) := by decide +kernel
theorem dX7_sew_31 : decode cX7_sew 31 = .ok (.aload_n 0, 1) := by decide +kernel
theorem dX7_sew_32 : decode cX7_sew 32 = .ok (.iconst 1, 1) := by decide +kernel
theorem dX7_sew_33 : decode cX7_sew 33 = .ok (.invokevirtual 130, 3) := by decide +kernel
theorem dX7_sew_36 : decode cX7_sew 36 = .ok (.ireturn, 1) := by decide +kernel
theorem dX7_sew_37 : decode cX7_sew 37 = .ok (.aload_n 0, 1) := by decide +kernel
theorem dX7_sew_38 : decode cX7_sew 38 = .ok (.iload_n 1, 1) := by decide +kernel
theorem dX7_sew_39 : decode cX7_sew 39 = .ok (.invokevirtual 153, 3) := by decide +kernel
theorem dX7_sew_42 : decode cX7_sew 42 = .ok (.ifCond .ne 32, 3) := by decide +kernel
theorem dX7_sew_45 : decode cX7_sew 45 = .ok (.aload_n 0, 1) := by decide +kernel
theorem dX7_sew_46 : decode cX7_sew 46 = .ok (.getfield 7, 3) := by decide +kernel
theorem dX7_sew_49 : decode cX7_sew 49 = .ok (.iconst 4, 1) := by decide +kernel
theorem dX7_sew_50 : decode cX7_sew 50 = .ok (.iaload, 1) := by decide +kernel
theorem dX7_sew_51 : decode cX7_sew 51 = .ok (.ifCond .eq 23, 3) := by decide +kernel
theorem dX7_sew_54 : decode cX7_sew 54 = .ok (.aload_n 0, 1) := by decide +kernel
theorem dX7_sew_55 : decode cX7_sew 55 = .ok (.getfield 7, 3) := by decide +kernel
theorem dX7_sew_58 : decode cX7_sew 58 = .ok (.iconst 2, 1) := by decide +kernel
theorem dX7_sew_59 : decode cX7_sew 59 = .ok (.iload_n 2, 1) := by decide +kernel
theorem dX7_sew_60 : decode cX7_sew 60 = .ok (.iadd, 1) := by decide +kernel
theorem dX7_sew_61 : decode cX7_sew 61 = .ok (.iaload, 1) := by decide +kernel
theorem dX7_sew_62 : decode cX7_sew 62 = .ok (.ifCond .eq 12, 3) := by decide +kernel
theorem dX7_sew_65 : decode cX7_sew 65 = .ok (.aload_n 0, 1) := by decide +kernel
theorem dX7_sew_66 : decode cX7_sew 66 = .ok (.iload_n 1, 1) := by decide +kernel
theorem dX7_sew_67 : decode cX7_sew 67 = .ok (.iconst 4, 1) := by decide +kernel
theorem dX7_sew_68 : decode cX7_sew 68 = .ok (.invokevirtual 150, 3) := by decide +kernel
theorem dX7_sew_71 : decode cX7_sew 71 = .ok (.ifCond .ne 9, 3) := by decide +kernel
theorem dX7_sew_74 : decode cX7_sew 74 = .ok (.aload_n 0, 1) := by decide +kernel
theorem dX7_sew_75 : decode cX7_sew 75 = .ok (.iconst 3, 1) := by decide +kernel
theorem dX7_sew_76 : decode cX7_sew 76 = .ok (.invokevirtual 130, 3) := by decide +kernel
theorem dX7_sew_79 : decode cX7_sew 79 = .ok (.ireturn, 1) := by decide +kernel
theorem dX7_sew_80 : decode cX7_sew 80 = .ok (.aload_n 0, 1) := by decide +kernel
theorem dX7_sew_81 : decode cX7_sew 81 = .ok (.getfield 7, 3) := by decide +kernel
theorem dX7_sew_84 : decode cX7_sew 84 = .ok (.iconst 2, 1) := by decide +kernel
theorem dX7_sew_85 : decode cX7_sew 85 = .ok (.iload_n 2, 1) := by decide +kernel
theorem dX7_sew_86 : decode cX7_sew 86 = .ok (.iadd, 1) := by decide +kernel
theorem dX7_sew_87 : decode cX7_sew 87 = .ok (.dup2, 1) := by decide +kernel
theorem dX7_sew_88 : decode cX7_sew 88 = .ok (.iaload, 1) := by decide +kernel
theorem dX7_sew_89 : decode cX7_sew 89 = .ok (.iconst 1, 1) := by decide +kernel
theorem dX7_sew_90 : decode cX7_sew 90 = .ok (.isub, 1) := by decide +kernel
theorem dX7_sew_91 : decode cX7_sew 91 = .ok (.iastore, 1) := by decide +kernel
theorem dX7_sew_92 : decode cX7_sew 92 = .ok (.aload_n 0, 1) := by decide +kernel
theorem dX7_sew_93 : decode cX7_sew 93 = .ok (.getfield 7, 3) := by decide +kernel
theorem dX7_sew_96 : decode cX7_sew 96 = .ok (.iconst 4, 1) := by decide +kernel
theorem dX7_sew_97 : decode cX7_sew 97 = .ok (.dup2, 1) := by decide +kernel
theorem dX7_sew_98 : decode cX7_sew 98 = .ok (.iaload, 1) := by decide +kernel
theorem dX7_sew_99 : decode cX7_sew 99 = .ok (.iconst 1, 1) := by decide +kernel
theorem dX7_sew_100 : decode cX7_sew 100 = .ok (.isub, 1) := by decide +kernel
theorem dX7_sew_101 : decode cX7_sew 101 = .ok (.iastore, 1) := by decide +kernel
theorem dX7_sew_102 : decode cX7_sew 102 = .ok (.aload_n 0, 1) := by decide +kernel
theorem dX7_sew_103 : decode cX7_sew 103 = .ok (.iload_n 1, 1) := by decide +kernel
theorem dX7_sew_104 : decode cX7_sew 104 = .ok (.iconst 2, 1) := by decide +kernel
theorem dX7_sew_105 : decode cX7_sew 105 = .ok (.iload_n 2, 1) := by decide +kernel
theorem dX7_sew_106 : decode cX7_sew 106 = .ok (.iadd, 1) := by decide +kernel
theorem dX7_sew_107 : decode cX7_sew 107 = .ok (.aload_n 0, 1) := by decide +kernel
theorem dX7_sew_108 : decode cX7_sew 108 = .ok (.iload_n 1, 1) := by decide +kernel
theorem dX7_sew_109 : decode cX7_sew 109 = .ok (.iconst 2, 1) := by decide +kernel
theorem dX7_sew_110 : decode cX7_sew 110 = .ok (.iload_n 2, 1) := by decide +kernel
theorem dX7_sew_111 : decode cX7_sew 111 = .ok (.iadd, 1) := by decide +kernel
theorem dX7_sew_112 : decode cX7_sew 112 = .ok (.invokevirtual 150, 3) := by decide +kernel
theorem dX7_sew_115 : decode cX7_sew 115 = .ok (.iconst 1, 1) := by decide +kernel
theorem dX7_sew_116 : decode cX7_sew 116 = .ok (.iadd, 1) := by decide +kernel
theorem dX7_sew_117 : decode cX7_sew 117 = .ok (.invokevirtual 186, 3) := by decide +kernel
theorem dX7_sew_120 : decode cX7_sew 120 = .ok (.aload_n 0, 1) := by decide +kernel
theorem dX7_sew_121 : decode cX7_sew 121 = .ok (.iload_n 1, 1) := by decide +kernel
theorem dX7_sew_122 : decode cX7_sew 122 = .ok (.iconst 4, 1) := by decide +kernel
theorem dX7_sew_123 : decode cX7_sew 123 = .ok (.aload_n 0, 1) := by decide +kernel
theorem dX7_sew_124 : decode cX7_sew 124 = .ok (.iload_n 1, 1) := by decide +kernel
theorem dX7_sew_125 : decode cX7_sew 125 = .ok (.iconst 4, 1) := by decide +kernel
theorem dX7_sew_126 : decode cX7_sew 126 = .ok (.invokevirtual 150, 3) := by decide +kernel
theorem dX7_sew_129 : decode cX7_sew 129 = .ok (.iconst 1, 1) := by decide +kernel
theorem dX7_sew_130 : decode cX7_sew 130 = .ok (.isub, 1) := by decide +kernel
theorem dX7_sew_131 : decode cX7_sew 131 = .ok (.invokevirtual 186, 3) := by decide +kernel
theorem dX7_sew_134 : decode cX7_sew 134 = .ok (.aload_n 0, 1) := by decide +kernel
theorem dX7_sew_135 : decode cX7_sew 135 = .ok (.iload_n 1, 1) := by decide +kernel
theorem dX7_sew_136 : decode cX7_sew 136 = .ok (.iconst 4, 1) := by decide +kernel
theorem dX7_sew_137 : decode cX7_sew 137 = .ok (.invokevirtual 150, 3) := by decide +kernel
theorem dX7_sew_140 : decode cX7_sew 140 = .ok (.ireturn, 1) := by decide +kernel
theorem dX7_dayGoes_0 : decode cX7_dayGoes 0 = .ok (.aload_n 0, 1) := by decide +kernel
theorem dX7_dayGoes_1 : decode cX7_dayGoes 1 = .ok (.invokevirtual 194, 3) := by decide +kernel
theorem dX7_dayGoes_4 : decode cX7_dayGoes 4 = .ok (.istore_n 1, 1) := by decide +kernel
theorem dX7_dayGoes_5 : decode cX7_dayGoes 5 = .ok (.iconst 0, 1) := by decide +kernel
theorem dX7_dayGoes_6 : decode cX7_dayGoes 6 = .ok (.istore_n 2, 1) := by decide +kernel
theorem dX7_dayGoes_7 : decode cX7_dayGoes 7 = .ok (.iload_n 2, 1) := by decide +kernel
theorem dX7_dayGoes_8 : decode cX7_dayGoes 8 = .ok (.aload_n 0, 1) := by decide +kernel
theorem dX7_dayGoes_9 : decode cX7_dayGoes 9 = .ok (.getfield 7, 3) := by decide +kernel
theorem dX7_dayGoes_12 : decode cX7_dayGoes 12 = .ok (.iconst 0, 1) := by decide +kernel
theorem dX7_dayGoes_13 : decode cX7_dayGoes 13 = .ok (.iaload, 1) := by decide +kernel
theorem dX7_dayGoes_14 : decode cX7_dayGoes 14 = .ok (.if_icmp .ge 53, 3) := by decide +kernel
theorem dX7_dayGoes_17 : decode cX7_dayGoes 17 = .ok (.aload_n 0, 1) := by decide +kernel
theorem dX7_dayGoes_18 : decode cX7_dayGoes 18 = .ok (.iload_n 2, 1) := by decide +kernel
theorem dX7_dayGoes_19 : decode cX7_dayGoes 19 = .ok (.invokevirtual 153, 3) := by decide +kernel
theorem dX7_dayGoes_22 : decode cX7_dayGoes 22 = .ok (.ifCond .ne 39, 3) := by decide +kernel
theorem dX7_dayGoes_25 : decode cX7_dayGoes 25 = .ok (.iload_n 1, 1) := by decide +kernel
theorem dX7_dayGoes_26 : decode cX7_dayGoes 26 = .ok (.ifCond .ne 7, 3) := by decide +kernel
theorem dX7_dayGoes_29 : decode cX7_dayGoes 29 = .ok (.iconst 1, 1) := by decide +kernel
theorem dX7_dayGoes_30 : decode cX7_dayGoes 30 = .ok (.goto 10, 3) := by decide +kernel
