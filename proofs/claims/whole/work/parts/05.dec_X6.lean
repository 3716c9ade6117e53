theorem dX6_init_0 : decode cX6_init 0 = .ok (.aload_n 0, 1) := by decide +kernel
theorem dX6_init_1 : decode cX6_init 1 = .ok (.invokespecial 1, 3) := by decide +kernel
theorem dX6_init_4 : decode cX6_init 4 = .ok (.aload_n 0, 1) := by decide +kernel
theorem dX6_init_5 : decode cX6_init 5 = .ok (.new 7, 3) := by decide +kernel
theorem dX6_init_8 : decode cX6_init 8 = .ok (.dup, 1) := by decide +kernel
theorem dX6_init_9 : decode cX6_init 9 = .ok (.invokespecial 9, 3) := by decide +kernel
theorem dX6_init_12 : decode cX6_init 12 = .ok (.putfield 10, 3) := by decide +kernel
theorem dX6_init_15 : decode cX6_init 15 = .ok (.aload_n 0, 1) := by decide +kernel
theorem dX6_init_16 : decode cX6_init 16 = .ok (.new 7, 3) := by decide +kernel
theorem dX6_init_19 : decode cX6_init 19 = .ok (.dup, 1) := by decide +kernel
theorem dX6_init_20 : decode cX6_init 20 = .ok (.invokespecial 9, 3) := by decide +kernel
theorem dX6_init_23 : decode cX6_init 23 = .ok (.putfield 16, 3) := by decide +kernel
theorem dX6_init_26 : decode cX6_init 26 = .ok (.aload_n 0, 1) := by decide +kernel
theorem dX6_init_27 : decode cX6_init 27 = .ok (.new 19, 3) := by decide +kernel
theorem dX6_init_30 : decode cX6_init 30 = .ok (.dup, 1) := by decide +kernel
theorem dX6_init_31 : decode cX6_init 31 = .ok (.invokespecial 21, 3) := by decide +kernel
theorem dX6_init_34 : decode cX6_init 34 = .ok (.putfield 22, 3) := by decide +kernel
theorem dX6_init_37 : decode cX6_init 37 = .ok (.aload_n 0, 1) := by decide +kernel
theorem dX6_init_38 : decode cX6_init 38 = .ok (.new 26, 3) := by decide +kernel
theorem dX6_init_41 : decode cX6_init 41 = .ok (.dup, 1) := by decide +kernel
theorem dX6_init_42 : decode cX6_init 42 = .ok (.invokespecial 28, 3) := by decide +kernel
theorem dX6_init_45 : decode cX6_init 45 = .ok (.putfield 29, 3) := by decide +kernel
theorem dX6_init_48 : decode cX6_init 48 = .ok (.aload_n 0, 1) := by decide +kernel
theorem dX6_init_49 : decode cX6_init 49 = .ok (.new 33, 3) := by decide +kernel
theorem dX6_init_52 : decode cX6_init 52 = .ok (.dup, 1) := by decide +kernel
theorem dX6_init_53 : decode cX6_init 53 = .ok (.invokespecial 35, 3) := by decide +kernel
theorem dX6_init_56 : decode cX6_init 56 = .ok (.putfield 36, 3) := by decide +kernel
theorem dX6_init_59 : decode cX6_init 59 = .ok (.aload_n 0, 1) := by decide +kernel
theorem dX6_init_60 : decode cX6_init 60 = .ok (.iconst 4, 1) := by decide +kernel
theorem dX6_init_61 : decode cX6_init 61 = .ok (.anewarray 40, 3) := by decide +kernel
theorem dX6_init_64 : decode cX6_init 64 = .ok (.putfield 42, 3) := by decide +kernel
theorem dX6_init_67 : decode cX6_init 67 = .ok (.aload_n 0, 1) := by decide +kernel
theorem dX6_init_68 : decode cX6_init 68 = .ok (.bipush 60, 2) := by decide +kernel
theorem dX6_init_70 : decode cX6_init 70 = .ok (.newarray .int, 2) := by decide +kernel
theorem dX6_init_72 : decode cX6_init 72 = .ok (.putfield 46, 3) := by decide +kernel
theorem dX6_init_75 : decode cX6_init 75 = .ok (.aload_n 0, 1) := by decide +kernel
theorem dX6_init_76 : decode cX6_init 76 = .ok (.bipush 6, 2) := by decide +kernel
theorem dX6_init_78 : decode cX6_init 78 = .ok (.newarray .int, 2) := by decide +kernel
theorem dX6_init_80 : decode cX6_init 80 = .ok (.putfield 50, 3) := by decide +kernel
theorem dX6_init_83 : decode cX6_init 83 = .ok (.iconst 0, 1) := by decide +kernel
theorem dX6_init_84 : decode cX6_init 84 = .ok (.istore_n 1, 1) := by decide +kernel
theorem dX6_init_85 : decode cX6_init 85 = .ok (.iload_n 1, 1) := by decide +kernel
theorem dX6_init_86 : decode cX6_init 86 = .ok (.aload_n 0, 1) := by decide +kernel
theorem dX6_init_87 : decode cX6_init 87 = .ok (.getfield 42, 3) := by decide +kernel
theorem dX6_init_90 : decode cX6_init 90 = .ok (.arraylength, 1) := by decide +kernel
theorem dX6_init_91 : decode cX6_init 91 = .ok (.if_icmp .ge 22, 3) := by decide +kernel
theorem dX6_init_94 : decode cX6_init 94 = .ok (.aload_n 0, 1) := by decide +kernel
theorem dX6_init_95 : decode cX6_init 95 = .ok (.getfield 42, 3) := by decide +kernel
theorem dX6_init_98 : decode cX6_init 98 = .ok (.iload_n 1, 1) := by decide +kernel
theorem dX6_init_99 : decode cX6_init 99 = .ok (.new 40, 3) := by decide +kernel
theorem dX6_init_102 : decode cX6_init 102 = .ok (.dup, 1) := by decide +kernel
theorem dX6_init_103 : decode cX6_init 103 = .ok (.invokespecial 53, 3) := by decide +kernel
theorem dX6_init_106 : decode cX6_init 106 = .ok (.aastore, 1) := by decide +kernel
theorem dX6_init_107 : decode cX6_init 107 = .ok (.iinc 1 1, 3) := by decide +kernel
theorem dX6_init_110 : decode cX6_init 110 = .ok (.goto (-25), 3) := by decide +kernel
theorem dX6_init_113 : decode cX6_init 113 = .ok (.return_, 1) := by decide +kernel
theorem dX6_person_0 : decode cX6_person 0 = .ok (.aload_n 0, 1) := by decide +kernel
theorem dX6_person_1 : decode cX6_person 1 = .ok (.iload_n 1, 1) := by decide +kernel
theorem dX6_person_2 : decode cX6_person 2 = .ok (.invokevirtual 54, 3) := by decide +kernel
theorem dX6_person_5 : decode cX6_person 5 = .ok (.ifCond .ne 9, 3) := by decide +kernel
theorem dX6_person_8 : decode cX6_person 8 = .ok (.aload_n 0, 1) := by decide +kernel
theorem dX6_person_9 : decode cX6_person 9 = .ok (.iconst 1, 1) := by decide +kernel
theorem dX6_person_10 : decode cX6_person 10 = .ok (.invokevirtual 58, 3) := by decide +kernel
theorem dX6_person_13 : decode cX6_person 13 = .ok (.ireturn, 1) := by decide +kernel
theorem dX6_person_14 : decode cX6_person 14 = .ok (.aload_n 0, 1) := by decide +kernel
theorem dX6_person_15 : decode cX6_person 15 = .ok (.getfield 10, 3) := by decide +kernel
theorem dX6_person_18 : decode cX6_person 18 = .ok (.getfield 62, 3) := by decide +kernel
theorem dX6_person_21 : decode cX6_person 21 = .ok (.astore_n 2, 1) := by decide +kernel
theorem dX6_person_22 : decode cX6_person 22 = .ok (.aload_n 2, 1) := by decide +kernel
theorem dX6_person_23 : decode cX6_person 23 = .ok (.getfield 65, 3) := by decide +kernel
theorem dX6_person_26 : decode cX6_person 26 = .ok (.istore_n 3, 1) := by decide +kernel
theorem dX6_person_27 : decode cX6_person 27 = .ok (.iload_n 3, 1) := by decide +kernel
theorem dX6_person_28 : decode cX6_person 28 = .ok (.bipush 8, 2) := by decide +kernel
theorem dX6_person_30 : decode cX6_person 30 = .ok (.if_icmp .lt 9, 3) := by decide +kernel
theorem dX6_person_33 : decode cX6_person 33 = .ok (.aload_n 0, 1) := by decide +kernel
theorem dX6_person_34 : decode cX6_person 34 = .ok (.iconst 4, 1) := by decide +kernel
theorem dX6_person_35 : decode cX6_person 35 = .ok (.invokevirtual 58, 3) := by decide +kernel
theorem dX6_person_38 : decode cX6_person 38 = .ok (.ireturn, 1) := by decide +kernel
theorem dX6_person_39 : decode cX6_person 39 = .ok (.aload_n 2, 1) := by decide +kernel
theorem dX6_person_40 : decode cX6_person 40 = .ok (.iload_n 3, 1) := by decide +kernel
theorem dX6_person_41 : decode cX6_person 41 = .ok (.iconst 1, 1) := by decide +kernel
theorem dX6_person_42 : decode cX6_person 42 = .ok (.iadd, 1) := by decide +kernel
theorem dX6_person_43 : decode cX6_person 43 = .ok (.putfield 65, 3) := by decide +kernel
theorem dX6_person_46 : decode cX6_person 46 = .ok (.aload_n 2, 1) := by decide +kernel
theorem dX6_person_47 : decode cX6_person 47 = .ok (.getfield 69, 3) := by decide +kernel
theorem dX6_person_50 : decode cX6_person 50 = .ok (.iload_n 3, 1) := by decide +kernel
theorem dX6_person_51 : decode cX6_person 51 = .ok (.iload_n 1, 1) := by decide +kernel
theorem dX6_person_52 : decode cX6_person 52 = .ok (.bipush 10, 2) := by decide +kernel
theorem dX6_person_54 : decode cX6_person 54 = .ok (.idiv, 1) := by decide +kernel
theorem dX6_person_55 : decode cX6_person 55 = .ok (.iastore, 1) := by decide +kernel
theorem dX6_person_56 : decode cX6_person 56 = .ok (.aload_n 2, 1) := by decide +kernel
theorem dX6_person_57 : decode cX6_person 57 = .ok (.getfield 72, 3) := by decide +kernel
theorem dX6_person_60 : decode cX6_person 60 = .ok (.iload_n 3, 1) := by decide +kernel
theorem dX6_person_61 : decode cX6_person 61 = .ok (.iload_n 1, 1) := by decide +kernel
theorem dX6_person_62 : decode cX6_person 62 = .ok (.bipush 10, 2) := by decide +kernel
theorem dX6_person_64 : decode cX6_person 64 = .ok (.irem, 1) := by decide +kernel
theorem dX6_person_65 : decode cX6_person 65 = .ok (.iastore, 1) := by decide +kernel
theorem dX6_person_66 : decode cX6_person 66 = .ok (.aload_n 2, 1) := by decide +kernel
theorem dX6_person_67 : decode cX6_person 67 = .ok (.getfield 75, 3) := by decide +kernel
theorem dX6_person_70 : decode cX6_person 70 = .ok (.iload_n 3, 1) := by decide +kernel
theorem dX6_person_71 : decode cX6_person 71 = .ok (.iconst 4, 1) := by decide +kernel
theorem dX6_person_72 : decode cX6_person 72 = .ok (.iastore, 1) := by decide +kernel
theorem dX6_person_73 : decode cX6_person 73 = .ok (.aload_n 2, 1) := by decide +kernel
theorem dX6_person_74 : decode cX6_person 74 = .ok (.getfield 78, 3) := by decide +kernel
theorem dX6_person_77 : decode cX6_person 77 = .ok (.iload_n 3, 1) := by decide +kernel
theorem dX6_person_78 : decode cX6_person 78 = .ok (.iconst 1, 1) := by decide +kernel
theorem dX6_person_79 : decode cX6_person 79 = .ok (.iastore, 1) := by decide +kernel
theorem dX6_person_80 : decode cX6_person 80 = .ok (.aload_n 2, 1) := by decide +kernel
theorem dX6_person_81 : decode cX6_person 81 = .ok (.getfield 81, 3) := by decide +kernel
theorem dX6_person_84 : decode cX6_person 84 = .ok (.iload_n 3, 1) := by decide +kernel
theorem dX6_person_85 : decode cX6_person 85 = .ok (.iconst 0, 1) := by decide +kernel
theorem dX6_person_86 : decode cX6_person 86 = .ok (.iastore, 1) := by decide +kernel
theorem dX6_person_87 : decode cX6_person 87 = .ok (.aload_n 2, 1) := by decide +kernel
theorem dX6_person_88 : decode cX6_person 88 = .ok (.getfield 84, 3) := by decide +kernel
theorem dX6_person_91 : decode cX6_person 91 = .ok (.iload_n 3, 1) := by decide +kernel
theorem dX6_person_92 : decode cX6_person 92 = .ok (.bipush 99, 2) := by decide +kernel
theorem dX6_person_94 : decode cX6_person 94 = .ok (.iastore, 1) := by decide +kernel
theorem dX6_person_95 : decode cX6_person 95 = .ok (.iload_n 3, 1) := by decide +kernel
theorem dX6_person_96 : decode cX6_person 96 = .ok (.ireturn, 1) := by decide +kernel
theorem dX6_ofPerson_0 : decode cX6_ofPerson 0 = .ok (.aload_n 0, 1) := by decide +kernel
theorem dX6_ofPerson_1 : decode cX6_ofPerson 1 = .ok (.getfield 10, 3) := by decide +kernel
theorem dX6_ofPerson_4 : decode cX6_ofPerson 4 = .ok (.getfield 62, 3) := by decide +kernel
theorem dX6_ofPerson_7 : decode cX6_ofPerson 7 = .ok (.astore_n 3, 1) := by decide +kernel
theorem dX6_ofPerson_8 : decode cX6_ofPerson 8 = .ok (.aload_n 3, 1) := by decide +kernel
theorem dX6_ofPerson_9 : decode cX6_ofPerson 9 = .ok (.iload_n 1, 1) := by decide +kernel
theorem dX6_ofPerson_10 : decode cX6_ofPerson 10 = .ok (.invokevirtual 87, 3) := by decide +kernel
theorem dX6_ofPerson_13 : decode cX6_ofPerson 13 = .ok (.ifCond .ne 9, 3) := by decide +kernel
theorem dX6_ofPerson_16 : decode cX6_ofPerson 16 = .ok (.aload_n 0, 1) := by decide +kernel
theorem dX6_ofPerson_17 : decode cX6_ofPerson 17 = .ok (.iconst 1, 1) := by decide +kernel
theorem dX6_ofPerson_18 : decode cX6_ofPerson 18 = .ok (.invokevirtual 58, 3) := by decide +kernel
theorem dX6_ofPerson_21 : decode cX6_ofPerson 21 = .ok (.ireturn, 1) := by decide +kernel
theorem dX6_ofPerson_22 : decode cX6_ofPerson 22 = .ok (.iload_n 2, 1) := by decide +kernel
theorem dX6_ofPerson_23 : decode cX6_ofPerson 23 = .ok (.tableswitch 138 0 9 #[53, 60, 67, 74, 81, 88, 95, 109, 121, 127], 53) := by decide +kernel
theorem dX6_ofPerson_76 : decode cX6_ofPerson 76 = .ok (.aload_n 3, 1) := by decide +kernel
theorem dX6_ofPerson_77 : decode cX6_ofPerson 77 = .ok (.getfield 69, 3) := by decide +kernel
theorem dX6_ofPerson_80 : decode cX6_ofPerson 80 = .ok (.iload_n 1, 1) := by decide +kernel
theorem dX6_ofPerson_81 : decode cX6_ofPerson 81 = .ok (.iaload, 1) := by decide +kernel
theorem dX6_ofPerson_82 : decode cX6_ofPerson 82 = .ok (.ireturn, 1) := by decide +kernel
theorem dX6_ofPerson_83 : decode cX6_ofPerson 83 = .ok (.aload_n 3, 1) := by decide +kernel
theorem dX6_ofPerson_84 : decode cX6_ofPerson 84 = .ok (.getfield 72, 3) := by decide +kernel
theorem dX6_ofPerson_87 : decode cX6_ofPerson 87 = .ok (.iload_n 1, 1) := by decide +kernel
theorem dX6_ofPerson_88 : decode cX6_ofPerson 88 = .ok (.iaload, 1) := by decide +kernel
theorem dX6_ofPerson_89 : decode cX6_ofPerson 89 = .ok (.ireturn, 1) := by decide +kernel
theorem dX6_ofPerson_90 : decode cX6_ofPerson 90 = .ok (.aload_n 3, 1) := by decide +kernel
theorem dX6_ofPerson_91 : decode cX6_ofPerson 91 = .ok (.getfield 75, 3) := by decide +kernel
theorem dX6_ofPerson_94 : decode cX6_ofPerson 94 = .ok (.iload_n 1, 1) := by decide +kernel
theorem dX6_ofPerson_95 : decode cX6_ofPerson 95 = .ok (.iaload, 1) := by decide +kernel
theorem dX6_ofPerson_96 : decode cX6_ofPerson 96 = .ok (.ireturn, 1) := by decide +kernel
theorem dX6_ofPerson_97 : decode cX6_ofPerson 97 = .ok (.aload_n 3, 1) := by decide +kernel
theorem dX6_ofPerson_98 : decode cX6_ofPerson 98 = .ok (.getfield 78, 3) := by decide +kernel
theorem dX6_ofPerson_101 : decode cX6_ofPerson 101 = .ok (.iload_n 1, 1) := by decide +kernel
theorem dX6_ofPerson_102 : decode cX6_ofPerson 102 = .ok (.iaload, 1) := by decide +kernel
theorem dX6_ofPerson_103 : decode cX6_ofPerson 103 = .ok (.ireturn, 1) := by decide +kernel
theorem dX6_ofPerson_104 : decode cX6_ofPerson 104 = .ok (.aload_n 3, 1) := by decide +kernel
theorem dX6_ofPerson_105 : decode cX6_ofPerson 105 = .ok (.getfield 81, 3) := by decide +kernel
theorem dX6_ofPerson_108 : decode cX6_ofPerson 108 = .ok (.iload_n 1, 1) := by decide +kernel
theorem dX6_ofPerson_109 : decode cX6_ofPerson 109 = .ok (.iaload, 1) := by decide +kernel
theorem dX6_ofPerson_110 : decode cX6_ofPerson 110 = .ok (.ireturn, 1) := by decide +kernel
theorem dX6_ofPerson_111 : decode cX6_ofPerson 111 = .ok (.aload_n 3, 1) := by decide +kernel
theorem dX6_ofPerson_112 : decode cX6_ofPerson 112 = .ok (.getfield 84, 3) := by decide +kernel
theorem dX6_ofPerson_115 : decode cX6_ofPerson 115 = .ok (.iload_n 1, 1) := by decide +kernel
theorem dX6_ofPerson_116 : decode cX6_ofPerson 116 = .ok (.iaload, 1) := by decide +kernel
theorem dX6_ofPerson_117 : decode cX6_ofPerson 117 = .ok (.ireturn, 1) := by decide +kernel
theorem dX6_ofPerson_118 : decode cX6_ofPerson 118 = .ok (.aload_n 3, 1) := by decide +kernel
theorem dX6_ofPerson_119 : decode cX6_ofPerson 119 = .ok (.iload_n 1, 1) := by decide +kernel
theorem dX6_ofPerson_120 : decode cX6_ofPerson 120 = .ok (.invokevirtual 90, 3) := by decide +kernel
theorem dX6_ofPerson_123 : decode cX6_ofPerson 123 = .ok (.ifCond .eq 7, 3) := by decide +kernel
theorem dX6_ofPerson_126 : decode cX6_ofPerson 126 = .ok (.iconst 1, 1) := by decide +kernel
theorem dX6_ofPerson_127 : decode cX6_ofPerson 127 = .ok (.goto 4, 3) := by decide +kernel
theorem dX6_ofPerson_130 : decode cX6_ofPerson 130 = .ok (.iconst 0, 1) := by decide +kernel
theorem dX6_ofPerson_131 : decode cX6_ofPerson 131 = .ok (.ireturn, 1) := by decide +kernel
theorem dX6_ofPerson_132 : decode cX6_ofPerson 132 = .ok (.aload_n 3, 1) := by decide +kernel
theorem dX6_ofPerson_133 : decode cX6_ofPerson 133 = .ok (.iload_n 1, 1) := by decide +kernel
theorem dX6_ofPerson_134 : decode cX6_ofPerson 134 = .ok (.invokevirtual 93, 3) := by decide +kernel
theorem dX6_ofPerson_137 : decode cX6_ofPerson 137 = .ok (.aload_n 3, 1) := by decide +kernel
theorem dX6_ofPerson_138 : decode cX6_ofPerson 138 = .ok (.iload_n 1, 1) := by decide +kernel
theorem dX6_ofPerson_139 : decode cX6_ofPerson 139 = .ok (.invokevirtual 96, 3) := by decide +kernel
theorem dX6_ofPerson_142 : decode cX6_ofPerson 142 = .ok (.iadd, 1) := by decide +kernel
theorem dX6_ofPerson_143 : decode cX6_ofPerson 143 = .ok (.ireturn, 1) := by decide +kernel
theorem dX6_ofPerson_144 : decode cX6_ofPerson 144 = .ok (.aload_n 3, 1) := by decide +kernel
theorem dX6_ofPerson_145 : decode cX6_ofPerson 145 = .ok (.iload_n 1, 1) := by decide +kernel
theorem dX6_ofPerson_146 : decode cX6_ofPerson 146 = .ok (.invokevirtual 99, 3) := by decide +kernel
theorem dX6_ofPerson_149 : decode cX6_ofPerson 149 = .ok (.ireturn, 1) := by decide +kernel
theorem dX6_ofPerson_150 : decode cX6_ofPerson 150 = .ok (.aload_n 3, 1) := by decide +kernel
theorem dX6_ofPerson_151 : decode cX6_ofPerson 151 = .ok (.iload_n 1, 1) := by decide +kernel
theorem dX6_ofPerson_152 : decode cX6_ofPerson 152 = .ok (.aload_n 0, 1) := by decide +kernel
theorem dX6_ofPerson_153 : decode cX6_ofPerson 153 = .ok (.iload_n 1, 1) := by decide +kernel
theorem dX6_ofPerson_154 : decode cX6_ofPerson 154 = .ok (.invokevirtual 102, 3) := by decide +kernel
theorem dX6_ofPerson_157 : decode cX6_ofPerson 157 = .ok (.invokevirtual 105, 3) := by decide +kernel
theorem dX6_ofPerson_160 : decode cX6_ofPerson 160 = .ok (.ireturn, 1) := by decide +kernel
theorem dX6_ofPerson_161 : decode cX6_ofPerson 161 = .ok (.aload_n 0, 1) := by decide +kernel
theorem dX6_ofPerson_162 : decode cX6_ofPerson 162 = .ok (.iconst 1, 1) := by decide +kernel
theorem dX6_ofPerson_163 : decode cX6_ofPerson 163 = .ok (.invokevirtual 58, 3) := by decide +kernel
theorem dX6_ofPerson_166 : decode cX6_ofPerson 166 = .ok (.ireturn, 1) := by decide +kernel
theorem dX6_change_0 : decode cX6_change 0 = .ok (.aload_n 0, 1) := by decide +kernel
theorem dX6_change_1 : decode cX6_change 1 = .ok (.getfield 10, 3) := by decide +kernel
theorem dX6_change_4 : decode cX6_change 4 = .ok (.getfield 62, 3) := by decide +kernel
theorem dX6_change_7 : decode cX6_change 7 = .ok (.iload_n 1, 1) := by decide +kernel
theorem dX6_change_8 : decode cX6_change 8 = .ok (.invokevirtual 87, 3) := by decide +kernel
theorem dX6_change_11 : decode cX6_change 11 = .ok (.ifCond .eq 16, 3) := by decide +kernel
theorem dX6_change_14 : decode cX6_change 14 = .ok (.iload_n 2, 1) := by decide +kernel
theorem dX6_change_15 : decode cX6_change 15 = .ok (.ifCond .lt 12, 3) := by decide +kernel
theorem dX6_change_18 : decode cX6_change 18 = .ok (.iload_n 2, 1) := by decide +kernel
theorem dX6_change_19 : decode cX6_change 19 = .ok (.iconst 3, 1) := by decide +kernel
theorem dX6_change_20 : decode cX6_change 20 = .ok (.if_icmp .gt 7, 3) := by decide +kernel
theorem dX6_change_23 : decode cX6_change 23 = .ok (.iload_n 3, 1) := by decide +kernel
theorem dX6_change_24 : decode cX6_change 24 = .ok (.ifCond .ge 9, 3) := by decide +kernel
theorem dX6_change_27 : decode cX6_change 27 = .ok (.aload_n 0, 1) := by decide +kernel
theorem dX6_change_28 : decode cX6_change 28 = .ok (.iconst 1, 1) := by decide +kernel
theorem dX6_change_29 : decode cX6_change 29 = .ok (.invokevirtual 58, 3) := by decide +kernel
theorem dX6_change_32 : decode cX6_change 32 = .ok (.ireturn, 1) := by decide +kernel
theorem dX6_change_33 : decode cX6_change 33 = .ok (.iload_n 3, 1) := by decide +kernel
theorem dX6_change_34 : decode cX6_change 34 = .ok (.iload_n 2, 1) := by decide +kernel
theorem dX6_change_35 : decode cX6_change 35 = .ok (.iconst 2, 1) := by decide +kernel
theorem dX6_change_36 : decode cX6_change 36 = .ok (.if_icmp .ge 8, 3) := by decide +kernel
theorem dX6_change_39 : decode cX6_change 39 = .ok (.bipush 9, 2) := by decide +kernel
theorem dX6_change_41 : decode cX6_change 41 = .ok (.goto 5, 3) := by decide +kernel
theorem dX6_change_44 : decode cX6_change 44 = .ok (.bipush 99, 2) := by decide +kernel
theorem dX6_change_46 : decode cX6_change 46 = .ok (.if_icmp .le 9, 3) := by decide +kernel
theorem dX6_change_49 : decode cX6_change 49 = .ok (.aload_n 0, 1) := by decide +kernel
theorem dX6_change_50 : decode cX6_change 50 = .ok (.iconst 1, 1) := by decide +kernel
theorem dX6_change_51 : decode cX6_change 51 = .ok (.invokevirtual 58, 3) := by decide +kernel
theorem dX6_change_54 : decode cX6_change 54 = .ok (.ireturn, 1) := by decide +kernel
theorem dX6_change_55 : decode cX6_change 55 = .ok (.aload_n 0, 1) := by decide +kernel
theorem dX6_change_56 : decode cX6_change 56 = .ok (.getfield 10, 3) := by decide +kernel
theorem dX6_change_59 : decode cX6_change 59 = .ok (.getfield 62, 3) := by decide +kernel
theorem dX6_change_62 : decode cX6_change 62 = .ok (.iload_n 2, 1) := by decide +kernel
theorem dX6_change_63 : decode cX6_change 63 = .ok (.invokevirtual 109, 3) := by decide +kernel
theorem dX6_change_66 : decode cX6_change 66 = .ok (.astore 4, 2) := by decide +kernel
theorem dX6_change_68 : decode cX6_change 68 = .ok (.aload 4, 2) := by decide +kernel
theorem dX6_change_70 : decode cX6_change 70 = .ok (.iload_n 1, 1) := by decide +kernel
theorem dX6_change_71 : decode cX6_change 71 = .ok (.iaload, 1) := by decide +kernel
theorem dX6_change_72 : decode cX6_change 72 = .ok (.istore 5, 2) := by decide +kernel
theorem dX6_change_74 : decode cX6_change 74 = .ok (.aload 4, 2) := by decide +kernel
theorem dX6_change_76 : decode cX6_change 76 = .ok (.iload_n 1, 1) := by decide +kernel
theorem dX6_change_77 : decode cX6_change 77 = .ok (.iload_n 3, 1) := by decide +kernel
theorem dX6_change_78 : decode cX6_change 78 = .ok (.iastore, 1) := by decide +kernel
theorem dX6_change_79 : decode cX6_change 79 = .ok (.iload 5, 2) := by decide +kernel
theorem dX6_change_81 : decode cX6_change 81 = .ok (.ireturn, 1) := by decide +kernel
theorem dX6_become_0 : decode cX6_become 0 = .ok (.aload_n 0, 1) := by decide +kernel
theorem dX6_become_1 : decode cX6_become 1 = .ok (.getfield 10, 3) := by decide +kernel
theorem dX6_become_4 : decode cX6_become 4 = .ok (.getfield 62, 3) := by decide +kernel
theorem dX6_become_7 : decode cX6_become 7 = .ok (.astore_n 3, 1) := by decide +kernel
theorem dX6_become_8 : decode cX6_become 8 = .ok (.aload_n 3, 1) := by decide +kernel
theorem dX6_become_9 : decode cX6_become 9 = .ok (.iload_n 1, 1) := by decide +kernel
theorem dX6_become_10 : decode cX6_become 10 = .ok (.invokevirtual 87, 3) := by decide +kernel
theorem dX6_become_13 : decode cX6_become 13 = .ok (.ifCond .eq 11, 3) := by decide +kernel
theorem dX6_become_16 : decode cX6_become 16 = .ok (.aload_n 0, 1) := by decide +kernel
theorem dX6_become_17 : decode cX6_become 17 = .ok (.iload_n 2, 1) := by decide +kernel
theorem dX6_become_18 : decode cX6_become 18 = .ok (.invokevirtual 54, 3) := by decide +kernel
theorem dX6_become_21 : decode cX6_become 21 = .ok (.ifCond .ne 9, 3) := by decide +kernel
theorem dX6_become_24 : decode cX6_become 24 = .ok (.aload_n 0, 1) := by decide +kernel
theorem dX6_become_25 : decode cX6_become 25 = .ok (.iconst 1, 1) := by decide +kernel
theorem dX6_become_26 : decode cX6_become 26 = .ok (.invokevirtual 58, 3) := by decide +kernel
theorem dX6_become_29 : decode cX6_become 29 = .ok (.ireturn, 1) := by decide +kernel
theorem dX6_become_30 : decode cX6_become 30 = .ok (.aload_n 3, 1) := by decide +kernel
theorem dX6_become_31 : decode cX6_become 31 = .ok (.getfield 69, 3) := by decide +kernel
theorem dX6_become_34 : decode cX6_become 34 = .ok (.iload_n 1, 1) := by decide +kernel
theorem dX6_become_35 : decode cX6_become 35 = .ok (.iaload, 1) := by decide +kernel
theorem dX6_become_36 : decode cX6_become 36 = .ok (.istore 4, 2) := by decide +kernel
theorem dX6_become_38 : decode cX6_become 38 = .ok (.aload_n 3, 1) := by decide +kernel
theorem dX6_become_39 : decode cX6_become 39 = .ok (.getfield 69, 3) := by decide +kernel
theorem dX6_become_42 : decode cX6_become 42 = .ok (.iload_n 1, 1) := by decide +kernel
theorem dX6_become_43 : decode cX6_become 43 = .ok (.iload_n 2, 1) := by decide +kernel
theorem dX6_become_44 : decode cX6_become 44 = .ok (.bipush 10, 2) := by decide +kernel
theorem dX6_become_46 : decode cX6_become 46 = .ok (.idiv, 1) := by decide +kernel
theorem dX6_become_47 : decode cX6_become 47 = .ok (.iastore, 1) := by decide +kernel
theorem dX6_become_48 : decode cX6_become 48 = .ok (.aload_n 3, 1) := by decide +kernel
theorem dX6_become_49 : decode cX6_become 49 = .ok (.getfield 72, 3) := by decide +kernel
theorem dX6_become_52 : decode cX6_become 52 = .ok (.iload_n 1, 1) := by decide +kernel
theorem dX6_become_53 : decode cX6_become 53 = .ok (.iload_n 2, 1) := by decide +kernel
theorem dX6_become_54 : decode cX6_become 54 = .ok (.bipush 10, 2) := by decide +kernel
theorem dX6_become_56 : decode cX6_become 56 = .ok (.irem, 1) := by decide +kernel
theorem dX6_become_57 : decode cX6_become 57 = .ok (.iastore, 1) := by decide +kernel
theorem dX6_become_58 : decode cX6_become 58 = .ok (.iload 4, 2) := by decide +kernel
theorem dX6_become_60 : decode cX6_become 60 = .ok (.ireturn, 1) := by decide +kernel
theorem dX6_as_0 : decode cX6_as 0 = .ok (.aload_n 0, 1) := by decide +kernel
theorem dX6_as_1 : decode cX6_as 1 = .ok (.getfield 10, 3) := by decide +kernel
theorem dX6_as_4 : decode cX6_as 4 = .ok (.getfield 62, 3) := by decide +kernel
theorem dX6_as_7 : decode cX6_as 7 = .ok (.astore_n 3, 1) := by decide +kernel
theorem dX6_as_8 : decode cX6_as 8 = .ok (.aload_n 3, 1) := by decide +kernel
theorem dX6_as_9 : decode cX6_as 9 = .ok (.iload_n 1, 1) := by decide +kernel
theorem dX6_as_10 : decode cX6_as 10 = .ok (.invokevirtual 87, 3) := by decide +kernel
theorem dX6_as_13 : decode cX6_as 13 = .ok (.ifCond .eq 13, 3) := by decide +kernel
theorem dX6_as_16 : decode cX6_as 16 = .ok (.iload_n 2, 1) := by decide +kernel
theorem dX6_as_17 : decode cX6_as 17 = .ok (.ifCond .lt 9, 3) := by decide +kernel
theorem dX6_as_20 : decode cX6_as 20 = .ok (.iload_n 2, 1) := by decide +kernel
theorem dX6_as_21 : decode cX6_as 21 = .ok (.bipush 7, 2) := by decide +kernel
theorem dX6_as_23 : decode cX6_as 23 = .ok (.if_icmp .lt 9, 3) := by decide +kernel
theorem dX6_as_26 : decode cX6_as 26 = .ok (.aload_n 0, 1) := by decide +kernel
theorem dX6_as_27 : decode cX6_as 27 = .ok (.iconst 1, 1) := by decide +kernel
theorem dX6_as_28 : decode cX6_as 28 = .ok (.invokevirtual 58, 3) := by decide +kernel
theorem dX6_as_31 : decode cX6_as 31 = .ok (.ireturn, 1) := by decide +kernel
theorem dX6_as_32 : decode cX6_as 32 = .ok (.aload_n 3, 1) := by decide +kernel
theorem dX6_as_33 : decode cX6_as 33 = .ok (.getfield 69, 3) := by decide +kernel
theorem dX6_as_36 : decode cX6_as 36 = .ok (.iload_n 1, 1) := by decide +kernel
theorem dX6_as_37 : decode cX6_as 37 = .ok (.iaload, 1) := by decide +kernel
theorem dX6_as_38 : decode cX6_as 38 = .ok (.iload_n 2, 1) := by decide +kernel
theorem dX6_as_39 : decode cX6_as 39 = .ok (.invokestatic 113, 3) := by decide +kernel
theorem dX6_as_42 : decode cX6_as 42 = .ok (.ifCond .ne 9, 3) := by decide +kernel
theorem dX6_as_45 : decode cX6_as 45 = .ok (.aload_n 0, 1) := by decide +kernel
theorem dX6_as_46 : decode cX6_as 46 = .ok (.iconst 5, 1) := by decide +kernel
theorem dX6_as_47 : decode cX6_as 47 = .ok (.invokevirtual 58, 3) := by decide +kernel
theorem dX6_as_50 : decode cX6_as 50 = .ok (.ireturn, 1) := by decide +kernel
theorem dX6_as_51 : decode cX6_as 51 = .ok (.aload_n 3, 1) := by decide +kernel
theorem dX6_as_52 : decode cX6_as 52 = .ok (.getfield 72, 3) := by decide +kernel
theorem dX6_as_55 : decode cX6_as 55 = .ok (.iload_n 1, 1) := by decide +kernel
theorem dX6_as_56 : decode cX6_as 56 = .ok (.iaload, 1) := by decide +kernel
theorem dX6_as_57 : decode cX6_as 57 = .ok (.ireturn, 1) := by decide +kernel
theorem dX6_motion_0 : decode cX6_motion 0 = .ok (.iload_n 1, 1) := by decide +kernel
theorem dX6_motion_1 : decode cX6_motion 1 = .ok (.ifCond .lt 17, 3) := by decide +kernel
theorem dX6_motion_4 : decode cX6_motion 4 = .ok (.iload_n 1, 1) := by decide +kernel
theorem dX6_motion_5 : decode cX6_motion 5 = .ok (.bipush 99, 2) := by decide +kernel
theorem dX6_motion_7 : decode cX6_motion 7 = .ok (.if_icmp .gt 11, 3) := by decide +kernel
theorem dX6_motion_10 : decode cX6_motion 10 = .ok (.aload_n 0, 1) := by decide +kernel
theorem dX6_motion_11 : decode cX6_motion 11 = .ok (.iload_n 2, 1) := by decide +kernel
theorem dX6_motion_12 : decode cX6_motion 12 = .ok (.invokevirtual 117, 3) := by decide +kernel
theorem dX6_motion_15 : decode cX6_motion 15 = .ok (.ifCond .ne 9, 3) := by decide +kernel
theorem dX6_motion_18 : decode cX6_motion 18 = .ok (.aload_n 0, 1) := by decide +kernel
theorem dX6_motion_19 : decode cX6_motion 19 = .ok (.iconst 1, 1) := by decide +kernel
theorem dX6_motion_20 : decode cX6_motion 20 = .ok (.invokevirtual 58, 3) := by decide +kernel
theorem dX6_motion_23 : decode cX6_motion 23 = .ok (.ireturn, 1) := by decide +kernel
theorem dX6_motion_24 : decode cX6_motion 24 = .ok (.aload_n 0, 1) := by decide +kernel
theorem dX6_motion_25 : decode cX6_motion 25 = .ok (.getfield 10, 3) := by decide +kernel
theorem dX6_motion_28 : decode cX6_motion 28 = .ok (.getfield 120, 3) := by decide +kernel
theorem dX6_motion_31 : decode cX6_motion 31 = .ok (.istore_n 3, 1) := by decide +kernel
theorem dX6_motion_32 : decode cX6_motion 32 = .ok (.iload_n 3, 1) := by decide +kernel
theorem dX6_motion_33 : decode cX6_motion 33 = .ok (.bipush 6, 2) := by decide +kernel
theorem dX6_motion_35 : decode cX6_motion 35 = .ok (.if_icmp .lt 9, 3) := by decide +kernel
theorem dX6_motion_38 : decode cX6_motion 38 = .ok (.aload_n 0, 1) := by decide +kernel
theorem dX6_motion_39 : decode cX6_motion 39 = .ok (.iconst 4, 1) := by decide +kernel
theorem dX6_motion_40 : decode cX6_motion 40 = .ok (.invokevirtual 58, 3) := by decide +kernel
theorem dX6_motion_43 : decode cX6_motion 43 = .ok (.ireturn, 1) := by decide +kernel
theorem dX6_motion_44 : decode cX6_motion 44 = .ok (.aload_n 0, 1) := by decide +kernel
theorem dX6_motion_45 : decode cX6_motion 45 = .ok (.getfield 10, 3) := by decide +kernel
theorem dX6_motion_48 : decode cX6_motion 48 = .ok (.iload_n 3, 1) := by decide +kernel
theorem dX6_motion_49 : decode cX6_motion 49 = .ok (.iconst 1, 1) := by decide +kernel
theorem dX6_motion_50 : decode cX6_motion 50 = .ok (.iadd, 1) := by decide +kernel
theorem dX6_motion_51 : decode cX6_motion 51 = .ok (.putfield 120, 3) := by decide +kernel
theorem dX6_motion_54 : decode cX6_motion 54 = .ok (.aload_n 0, 1) := by decide +kernel
theorem dX6_motion_55 : decode cX6_motion 55 = .ok (.getfield 10, 3) := by decide +kernel
theorem dX6_motion_58 : decode cX6_motion 58 = .ok (.getfield 123, 3) := by decide +kernel
theorem dX6_motion_61 : decode cX6_motion 61 = .ok (.iload_n 3, 1) := by decide +kernel
theorem dX6_motion_62 : decode cX6_motion 62 = .ok (.iload_n 1, 1) := by decide +kernel
theorem dX6_motion_63 : decode cX6_motion 63 = .ok (.iastore, 1) := by decide +kernel
theorem dX6_motion_64 : decode cX6_motion 64 = .ok (.aload_n 0, 1) := by decide +kernel
theorem dX6_motion_65 : decode cX6_motion 65 = .ok (.getfield 10, 3) := by decide +kernel
theorem dX6_motion_68 : decode cX6_motion 68 = .ok (.getfield 126, 3) := by decide +kernel
theorem dX6_motion_71 : decode cX6_motion 71 = .ok (.iload_n 3, 1) := by decide +kernel
theorem dX6_motion_72 : decode cX6_motion 72 = .ok (.iload_n 2, 1) := by decide +kernel
theorem dX6_motion_73 : decode cX6_motion 73 = .ok (.iastore, 1) := by decide +kernel
theorem dX6_motion_74 : decode cX6_motion 74 = .ok (.iload_n 3, 1) := by decide +kernel
theorem dX6_motion_75 : decode cX6_motion 75 = .ok (.ireturn, 1) := by decide +kernel
theorem dX6_ofMotion_0 : decode cX6_ofMotion 0 = .ok (.aload_n 0, 1) := by decide +kernel
theorem dX6_ofMotion_1 : decode cX6_ofMotion 1 = .ok (.getfield 10, 3) := by decide +kernel
theorem dX6_ofMotion_4 : decode cX6_ofMotion 4 = .ok (.iload_n 1, 1) := by decide +kernel
theorem dX6_ofMotion_5 : decode cX6_ofMotion 5 = .ok (.invokevirtual 129, 3) := by decide +kernel
theorem dX6_ofMotion_8 : decode cX6_ofMotion 8 = .ok (.ifCond .ne 9, 3) := by decide +kernel
theorem dX6_ofMotion_11 : decode cX6_ofMotion 11 = .ok (.aload_n 0, 1) := by decide +kernel
theorem dX6_ofMotion_12 : decode cX6_ofMotion 12 = .ok (.iconst 1, 1) := by decide +kernel
theorem dX6_ofMotion_13 : decode cX6_ofMotion 13 = .ok (.invokevirtual 58, 3) := by decide +kernel
theorem dX6_ofMotion_16 : decode cX6_ofMotion 16 = .ok (.ireturn, 1) := by decide +kernel
theorem dX6_ofMotion_17 : decode cX6_ofMotion 17 = .ok (.aload_n 0, 1) := by decide +kernel
theorem dX6_ofMotion_18 : decode cX6_ofMotion 18 = .ok (.getfield 10, 3) := by decide +kernel
theorem dX6_ofMotion_21 : decode cX6_ofMotion 21 = .ok (.getfield 126, 3) := by decide +kernel
theorem dX6_ofMotion_24 : decode cX6_ofMotion 24 = .ok (.iload_n 1, 1) := by decide +kernel
theorem dX6_ofMotion_25 : decode cX6_ofMotion 25 = .ok (.iaload, 1) := by decide +kernel
theorem dX6_ofMotion_26 : decode cX6_ofMotion 26 = .ok (.istore_n 3, 1) := by decide +kernel
theorem dX6_ofMotion_27 : decode cX6_ofMotion 27 = .ok (.iload_n 2, 1) := by decide +kernel
theorem dX6_ofMotion_28 : decode cX6_ofMotion 28 = .ok (.tableswitch 127 0 5 #[40, 50, 52, 72, 84, 98], 40) := by decide +kernel
theorem dX6_ofMotion_68 : decode cX6_ofMotion 68 = .ok (.aload_n 0, 1) := by decide +kernel
theorem dX6_ofMotion_69 : decode cX6_ofMotion 69 = .ok (.getfield 10, 3) := by decide +kernel
theorem dX6_ofMotion_72 : decode cX6_ofMotion 72 = .ok (.getfield 123, 3) := by decide +kernel
theorem dX6_ofMotion_75 : decode cX6_ofMotion 75 = .ok (.iload_n 1, 1) := by decide +kernel
theorem dX6_ofMotion_76 : decode cX6_ofMotion 76 = .ok (.iaload, 1) := by decide +kernel
theorem dX6_ofMotion_77 : decode cX6_ofMotion 77 = .ok (.ireturn, 1) := by decide +kernel
theorem dX6_ofMotion_78 : decode cX6_ofMotion 78 = .ok (.iload_n 3, 1) := by decide +kernel
theorem dX6_ofMotion_79 : decode cX6_ofMotion 79 = .ok (.ireturn, 1) := by decide +kernel
theorem dX6_ofMotion_80 : decode cX6_ofMotion 80 = .ok (.aload_n 0, 1) := by decide +kernel
theorem dX6_ofMotion_81 : decode cX6_ofMotion 81 = .ok (.getfield 10, 3) := by decide +kernel
theorem dX6_ofMotion_84 : decode cX6_ofMotion 84 = .ok (.getfield 132, 3) := by decide +kernel
theorem dX6_ofMotion_87 : decode cX6_ofMotion 87 = .ok (.iload_n 1, 1) := by decide +kernel
theorem dX6_ofMotion_88 : decode cX6_ofMotion 88 = .ok (.invokestatic 135, 3) := by decide +kernel
theorem dX6_ofMotion_91 : decode cX6_ofMotion 91 = .ok (.ifCond .eq 7, 3) := by decide +kernel
theorem dX6_ofMotion_94 : decode cX6_ofMotion 94 = .ok (.iconst 1, 1) := by decide +kernel
theorem dX6_ofMotion_95 : decode cX6_ofMotion 95 = .ok (.goto 4, 3) := by decide +kernel
theorem dX6_ofMotion_98 : decode cX6_ofMotion 98 = .ok (.iconst 0, 1) := by decide +kernel
theorem dX6_ofMotion_99 : decode cX6_ofMotion 99 = .ok (.ireturn, 1) := by decide +kernel
theorem dX6_ofMotion_100 : decode cX6_ofMotion 100 = .ok (.aload_n 0, 1) := by decide +kernel
theorem dX6_ofMotion_101 : decode cX6_ofMotion 101 = .ok (.getfield 10, 3) := by decide +kernel
theorem dX6_ofMotion_104 : decode cX6_ofMotion 104 = .ok (.getfield 62, 3) := by decide +kernel
theorem dX6_ofMotion_107 : decode cX6_ofMotion 107 = .ok (.iload_n 3, 1) := by decide +kernel
theorem dX6_ofMotion_108 : decode cX6_ofMotion 108 = .ok (.invokevirtual 138, 3) := by decide +kernel
theorem dX6_ofMotion_111 : decode cX6_ofMotion 111 = .ok (.ireturn, 1) := by decide +kernel
theorem dX6_ofMotion_112 : decode cX6_ofMotion 112 = .ok (.aload_n 0, 1) := by decide +kernel
theorem dX6_ofMotion_113 : decode cX6_ofMotion 113 = .ok (.getfield 10, 3) := by decide +kernel
theorem dX6_ofMotion_116 : decode cX6_ofMotion 116 = .ok (.getfield 62, 3) := by decide +kernel
theorem dX6_ofMotion_119 : decode cX6_ofMotion 119 = .ok (.iload_n 3, 1) := by decide +kernel
theorem dX6_ofMotion_120 : decode cX6_ofMotion 120 = .ok (.iconst (-1), 1) := by decide +kernel
theorem dX6_ofMotion_121 : decode cX6_ofMotion 121 = .ok (.ixor, 1) := by decide +kernel
theorem dX6_ofMotion_122 : decode cX6_ofMotion 122 = .ok (.invokevirtual 138, 3) := by decide +kernel
theorem dX6_ofMotion_125 : decode cX6_ofMotion 125 = .ok (.ireturn, 1) := by decide +kernel
theorem dX6_ofMotion_126 : decode cX6_ofMotion 126 = .ok (.aload_n 0, 1) := by decide +kernel
theorem dX6_ofMotion_127 : decode cX6_ofMotion 127 = .ok (.getfield 10, 3) := by decide +kernel
theorem dX6_ofMotion_130 : decode cX6_ofMotion 130 = .ok (.getfield 62, 3) := by decide +kernel
theorem dX6_ofMotion_133 : decode cX6_ofMotion 133 = .ok (.iload_n 3, 1) := by decide +kernel
theorem dX6_ofMotion_134 : decode cX6_ofMotion 134 = .ok (.aload_n 0, 1) := by decide +kernel
theorem dX6_ofMotion_135 : decode cX6_ofMotion 135 = .ok (.getfield 10, 3) := by decide +kernel
theorem dX6_ofMotion_138 : decode cX6_ofMotion 138 = .ok (.getfield 123, 3) := by decide +kernel
theorem dX6_ofMotion_141 : decode cX6_ofMotion 141 = .ok (.iload_n 1, 1) := by decide +kernel
theorem dX6_ofMotion_142 : decode cX6_ofMotion 142 = .ok (.iaload, 1) := by decide +kernel
theorem dX6_ofMotion_143 : decode cX6_ofMotion 143 = .ok (.invokevirtual 141, 3) := by decide +kernel
theorem dX6_ofMotion_146 : decode cX6_ofMotion 146 = .ok (.ifCond .eq 7, 3) := by decide +kernel
theorem dX6_ofMotion_149 : decode cX6_ofMotion 149 = .ok (.iconst 1, 1) := by decide +kernel
theorem dX6_ofMotion_150 : decode cX6_ofMotion 150 = .ok (.goto 4, 3) := by decide +kernel
theorem dX6_ofMotion_153 : decode cX6_ofMotion 153 = .ok (.iconst 0, 1) := by decide +kernel
theorem dX6_ofMotion_154 : decode cX6_ofMotion 154 = .ok (.ireturn, 1) := by decide +kernel
theorem dX6_ofMotion_155 : decode cX6_ofMotion 155 = .ok (.aload_n 0, 1) := by decide +kernel
theorem dX6_ofMotion_156 : decode cX6_ofMotion 156 = .ok (.iconst 1, 1) := by decide +kernel
theorem dX6_ofMotion_157 : decode cX6_ofMotion 157 = .ok (.invokevirtual 58, 3) := by decide +kernel
theorem dX6_ofMotion_160 : decode cX6_ofMotion 160 = .ok (.ireturn, 1) := by decide +kernel
theorem dX6_side_0 : decode cX6_side 0 = .ok (.aload_n 0, 1) := by decide +kernel
theorem dX6_side_1 : decode cX6_side 1 = .ok (.getfield 10, 3) := by decide +kernel
theorem dX6_side_4 : decode cX6_side 4 = .ok (.iload_n 1, 1) := by decide +kernel
theorem dX6_side_5 : decode cX6_side 5 = .ok (.invokevirtual 129, 3) := by decide +kernel
theorem dX6_side_8 : decode cX6_side 8 = .ok (.ifCond .eq 11, 3) := by decide +kernel
theorem dX6_side_11 : decode cX6_side 11 = .ok (.aload_n 0, 1) := by decide +kernel
theorem dX6_side_12 : decode cX6_side 12 = .ok (.iload_n 2, 1) := by decide +kernel
theorem dX6_side_13 : decode cX6_side 13 = .ok (.invokevirtual 117, 3) := by decide +kernel
theorem dX6_side_16 : decode cX6_side 16 = .ok (.ifCond .ne 9, 3) := by decide +kernel
theorem dX6_side_19 : decode cX6_side 19 = .ok (.aload_n 0, 1) := by decide +kernel
theorem dX6_side_20 : decode cX6_side 20 = .ok (.iconst 1, 1) := by decide +kernel
theorem dX6_side_21 : decode cX6_side 21 = .ok (.invokevirtual 58, 3) := by decide +kernel
theorem dX6_side_24 : decode cX6_side 24 = .ok (.ireturn, 1) := by decide +kernel
theorem dX6_side_25 : decode cX6_side 25 = .ok (.aload_n 0, 1) := by decide +kernel
theorem dX6_side_26 : decode cX6_side 26 = .ok (.getfield 10, 3) := by decide +kernel
theorem dX6_side_29 : decode cX6_side 29 = .ok (.getfield 126, 3) := by decide +kernel
theorem dX6_side_32 : decode cX6_side 32 = .ok (.iload_n 1, 1) := by decide +kernel
theorem dX6_side_33 : decode cX6_side 33 = .ok (.iaload, 1) := by decide +kernel
theorem dX6_side_34 : decode cX6_side 34 = .ok (.istore_n 3, 1) := by decide +kernel
theorem dX6_side_35 : decode cX6_side 35 = .ok (.aload_n 0, 1) := by decide +kernel
theorem dX6_side_36 : decode cX6_side 36 = .ok (.getfield 10, 3) := by decide +kernel
theorem dX6_side_39 : decode cX6_side 39 = .ok (.getfield 126, 3) := by decide +kernel
theorem dX6_side_42 : decode cX6_side 42 = .ok (.iload_n 1, 1) := by decide +kernel
theorem dX6_side_43 : decode cX6_side 43 = .ok (.iload_n 2, 1) := by decide +kernel
theorem dX6_side_44 : decode cX6_side 44 = .ok (.iastore, 1) := by decide +kernel
theorem dX6_side_45 : decode cX6_side 45 = .ok (.iload_n 3, 1) := by decide +kernel
theorem dX6_side_46 : decode cX6_side 46 = .ok (.ireturn, 1) := by decide +kernel
theorem dX6_set_0 : decode cX6_set 0 = .ok (.iload_n 1, 1) := by decide +kernel
theorem dX6_set_1 : decode cX6_set 1 = .ok (.ifCond .ne 8, 3) := by decide +kernel
theorem dX6_set_4 : decode cX6_set 4 = .ok (.bipush 9, 2) := by decide +kernel
theorem dX6_set_6 : decode cX6_set 6 = .ok (.goto 5, 3) := by decide +kernel
theorem dX6_set_9 : decode cX6_set 9 = .ok (.bipush 99, 2) := by decide +kernel
theorem dX6_set_11 : decode cX6_set 11 = .ok (.istore_n 3, 1) := by decide +kernel
theorem dX6_set_12 : decode cX6_set 12 = .ok (.iload_n 1, 1) := by decide +kernel
theorem dX6_set_13 : decode cX6_set 13 = .ok (.ifCond .lt 17, 3) := by decide +kernel
theorem dX6_set_16 : decode cX6_set 16 = .ok (.iload_n 1, 1) := by decide +kernel
theorem dX6_set_17 : decode cX6_set 17 = .ok (.iconst 1, 1) := by decide +kernel
theorem dX6_set_18 : decode cX6_set 18 = .ok (.if_icmp .gt 12, 3) := by decide +kernel
theorem dX6_set_21 : decode cX6_set 21 = .ok (.iload_n 2, 1) := by decide +kernel
theorem dX6_set_22 : decode cX6_set 22 = .ok (.ifCond .lt 8, 3) := by decide +kernel
theorem dX6_set_25 : decode cX6_set 25 = .ok (.iload_n 2, 1) := by decide +kernel
theorem dX6_set_26 : decode cX6_set 26 = .ok (.iload_n 3, 1) := by decide +kernel
theorem dX6_set_27 : decode cX6_set 27 = .ok (.if_icmp .le 9, 3) := by decide +kernel
theorem dX6_set_30 : decode cX6_set 30 = .ok (.aload_n 0, 1) := by decide +kernel
theorem dX6_set_31 : decode cX6_set 31 = .ok (.iconst 1, 1) := by decide +kernel
theorem dX6_set_32 : decode cX6_set 32 = .ok (.invokevirtual 58, 3) := by decide +kernel
theorem dX6_set_35 : decode cX6_set 35 = .ok (.ireturn, 1) := by decide +kernel
theorem dX6_set_36 : decode cX6_set 36 = .ok (.iload_n 1, 1) := by decide +kernel
theorem dX6_set_37 : decode cX6_set 37 = .ok (.ifCond .ne 13, 3) := by decide +kernel
theorem dX6_set_40 : decode cX6_set 40 = .ok (.aload_n 0, 1) := by decide +kernel
theorem dX6_set_41 : decode cX6_set 41 = .ok (.getfield 10, 3) := by decide +kernel
theorem dX6_set_44 : decode cX6_set 44 = .ok (.getfield 144, 3) := by decide +kernel
theorem dX6_set_47 : decode cX6_set 47 = .ok (.goto 10, 3) := by decide +kernel
theorem dX6_set_50 : decode cX6_set 50 = .ok (.aload_n 0, 1) := by decide +kernel
theorem dX6_set_51 : decode cX6_set 51 = .ok (.getfield 10, 3) := by decide +kernel
theorem dX6_set_54 : decode cX6_set 54 = .ok (.getfield 147, 3) := by decide +kernel
theorem dX6_set_57 : decode cX6_set 57 = .ok (.istore 4, 2) := by decide +kernel
theorem dX6_set_59 : decode cX6_set 59 = .ok (.iload_n 1, 1) := by decide +kernel
theorem dX6_set_60 : decode cX6_set 60 = .ok (.ifCond .ne 14, 3) := by decide +kernel
theorem dX6_set_63 : decode cX6_set 63 = .ok (.aload_n 0, 1) := by decide +kernel
theorem dX6_set_64 : decode cX6_set 64 = .ok (.getfield 10, 3) := by decide +kernel
theorem dX6_set_67 : decode cX6_set 67 = .ok (.iload_n 2, 1) := by decide +kernel
theorem dX6_set_68 : decode cX6_set 68 = .ok (.putfield 144, 3) := by decide +kernel
theorem dX6_set_71 : decode cX6_set 71 = .ok (.goto 11, 3) := by decide +kernel
theorem dX6_set_74 : decode cX6_set 74 = .ok (.aload_n 0, 1) := by decide +kernel
theorem dX6_set_75 : decode cX6_set 75 = .ok (.getfield 10, 3) := by decide +kernel
theorem dX6_set_78 : decode cX6_set 78 = .ok (.iload_n 2, 1) := by decide +kernel
theorem dX6_set_79 : decode cX6_set 79 = .ok (.putfield 147, 3) := by decide +kernel
theorem dX6_set_82 : decode cX6_set 82 = .ok (.iload 4, 2) := by decide +kernel
theorem dX6_set_84 : decode cX6_set 84 = .ok (.ireturn, 1) := by decide +kernel
theorem dX6_feed_0 : decode cX6_feed 0 = .ok (.iload_n 3, 1) := by decide +kernel
theorem dX6_feed_1 : decode cX6_feed 1 = .ok (.iconst 1, 1) := by decide +kernel
theorem dX6_feed_2 : decode cX6_feed 2 = .ok (.if_icmp .lt 9, 3) := by decide +kernel
theorem dX6_feed_5 : decode cX6_feed 5 = .ok (.iload_n 3, 1) := by decide +kernel
theorem dX6_feed_6 : decode cX6_feed 6 = .ok (.bipush 8, 2) := by decide +kernel
theorem dX6_feed_8 : decode cX6_feed 8 = .ok (.if_icmp .le 9, 3) := by decide +kernel
theorem dX6_feed_11 : decode cX6_feed 11 = .ok (.aload_n 0, 1) := by decide +kernel
theorem dX6_feed_12 : decode cX6_feed 12 = .ok (.iconst 1, 1) := by decide +kernel
theorem dX6_feed_13 : decode cX6_feed 13 = .ok (.invokevirtual 58, 3) := by decide +kernel
theorem dX6_feed_16 : decode cX6_feed 16 = .ok (.ireturn, 1) := by decide +kernel
theorem dX6_feed_17 : decode cX6_feed 17 = .ok (.aload_n 0, 1) := by decide +kernel
theorem dX6_feed_18 : decode cX6_feed 18 = .ok (.getfield 10, 3) := by decide +kernel
theorem dX6_feed_21 : decode cX6_feed 21 = .ok (.getfield 150, 3) := by decide +kernel
theorem dX6_feed_24 : decode cX6_feed 24 = .ok (.iload_n 3, 1) := by decide +kernel
theorem dX6_feed_25 : decode cX6_feed 25 = .ok (.iadd, 1) := by decide +kernel
theorem dX6_feed_26 : decode cX6_feed 26 = .ok (.bipush 50, 2) := by decide +kernel
theorem dX6_feed_28 : decode cX6_feed 28 = .ok (.if_icmp .le 9, 3) := by decide +kernel
theorem dX6_feed_31 : decode cX6_feed 31 = .ok (.aload_n 0, 1) := by decide +kernel
theorem dX6_feed_32 : decode cX6_feed 32 = .ok (.iconst 4, 1) := by decide +kernel
theorem dX6_feed_33 : decode cX6_feed 33 = .ok (.invokevirtual 58, 3) := by decide +kernel
theorem dX6_feed_36 : decode cX6_feed 36 = .ok (.ireturn, 1) := by decide +kernel
theorem dX6_feed_37 : decode cX6_feed 37 = .ok (.iconst 0, 1) := by decide +kernel
theorem dX6_feed_38 : decode cX6_feed 38 = .ok (.istore 4, 2) := by decide +kernel
theorem dX6_feed_40 : decode cX6_feed 40 = .ok (.iload 4, 2) := by decide +kernel
theorem dX6_feed_42 : decode cX6_feed 42 = .ok (.iload_n 3, 1) := by decide +kernel
theorem dX6_feed_43 : decode cX6_feed 43 = .ok (.if_icmp .ge 39, 3) := by decide +kernel
theorem dX6_feed_46 : decode cX6_feed 46 = .ok (.aload_n 0, 1) := by decide +kernel
theorem dX6_feed_47 : decode cX6_feed 47 = .ok (.getfield 10, 3) := by decide +kernel
theorem dX6_feed_50 : decode cX6_feed 50 = .ok (.getfield 153, 3) := by decide +kernel
theorem dX6_feed_53 : decode cX6_feed 53 = .ok (.aload_n 0, 1) := by decide +kernel
theorem dX6_feed_54 : decode cX6_feed 54 = .ok (.getfield 10, 3) := by decide +kernel
theorem dX6_feed_57 : decode cX6_feed 57 = .ok (.getfield 150, 3) := by decide +kernel
theorem dX6_feed_60 : decode cX6_feed 60 = .ok (.iload 4, 2) := by decide +kernel
theorem dX6_feed_62 : decode cX6_feed 62 = .ok (.iadd, 1) := by decide +kernel
theorem dX6_feed_63 : decode cX6_feed 63 = .ok (.lload_n 1, 1) := by decide +kernel
theorem dX6_feed_64 : decode cX6_feed 64 = .ok (.bipush 8, 2) := by decide +kernel
theorem dX6_feed_66 : decode cX6_feed 66 = .ok (.iload 4, 2) := by decide +kernel
theorem dX6_feed_68 : decode cX6_feed 68 = .ok (.imul, 1) := by decide +kernel
theorem dX6_feed_69 : decode cX6_feed 69 = .ok (.lushr, 1) := by decide +kernel
theorem dX6_feed_70 : decode cX6_feed 70 = .ok (.ldc2_w 156, 3) := by decide +kernel
theorem dX6_feed_73 : decode cX6_feed 73 = .ok (.land, 1) := by decide +kernel
theorem dX6_feed_74 : decode cX6_feed 74 = .ok (.l2i, 1) := by decide +kernel
theorem dX6_feed_75 : decode cX6_feed 75 = .ok (.iastore, 1) := by decide +kernel
theorem dX6_feed_76 : decode cX6_feed 76 = .ok (.iinc 4 1, 3) := by decide +kernel
theorem dX6_feed_79 : decode cX6_feed 79 = .ok (.goto (-39), 3) := by decide +kernel
theorem dX6_feed_82 : decode cX6_feed 82 = .ok (.aload_n 0, 1) := by decide +kernel
theorem dX6_feed_83 : decode cX6_feed 83 = .ok (.getfield 10, 3) := by decide +kernel
theorem dX6_feed_86 : decode cX6_feed 86 = .ok (.dup, 1) := by decide +kernel
theorem dX6_feed_87 : decode cX6_feed 87 = .ok (.getfield 150, 3) := by decide +kernel
theorem dX6_feed_90 : decode cX6_feed 90 = .ok (.iload_n 3, 1) := by decide +kernel
theorem dX6_feed_91 : decode cX6_feed 91 = .ok (.iadd, 1) := by decide +kernel
theorem dX6_feed_92 : decode cX6_feed 92 = .ok (.putfield 150, 3) := by decide +kernel
theorem dX6_feed_95 : decode cX6_feed 95 = .ok (.aload_n 0, 1) := by decide +kernel
theorem dX6_feed_96 : decode cX6_feed 96 = .ok (.getfield 10, 3) := by decide +kernel
theorem dX6_feed_99 : decode cX6_feed 99 = .ok (.getfield 150, 3) := by decide +kernel
theorem dX6_feed_102 : decode cX6_feed 102 = .ok (.ireturn, 1) := by decide +kernel
theorem dX6_text_0 : decode cX6_text 0 = .ok (.iload_n 1, 1) := by decide +kernel
theorem dX6_text_1 : decode cX6_text 1 = .ok (.ifCond .lt 8, 3) := by decide +kernel
theorem dX6_text_4 : decode cX6_text 4 = .ok (.iload_n 1, 1) := by decide +kernel
theorem dX6_text_5 : decode cX6_text 5 = .ok (.iconst 1, 1) := by decide +kernel
theorem dX6_text_6 : decode cX6_text 6 = .ok (.if_icmp .le 9, 3) := by decide +kernel
theorem dX6_text_9 : decode cX6_text 9 = .ok (.aload_n 0, 1) := by decide +kernel
theorem dX6_text_10 : decode cX6_text 10 = .ok (.iconst 1, 1) := by decide +kernel
theorem dX6_text_11 : decode cX6_text 11 = .ok (.invokevirtual 58, 3) := by decide +kernel
theorem dX6_text_14 : decode cX6_text 14 = .ok (.ireturn, 1) := by decide +kernel
theorem dX6_text_15 : decode cX6_text 15 = .ok (.aload_n 0, 1) := by decide +kernel
theorem dX6_text_16 : decode cX6_text 16 = .ok (.getfield 29, 3) := by decide +kernel
theorem dX6_text_19 : decode cX6_text 19 = .ok (.aload_n 0, 1) := by decide +kernel
theorem dX6_text_20 : decode cX6_text 20 = .ok (.getfield 10, 3) := by decide +kernel
theorem dX6_text_23 : decode cX6_text 23 = .ok (.getfield 153, 3) := by decide +kernel
theorem dX6_text_26 : decode cX6_text 26 = .ok (.aload_n 0, 1) := by decide +kernel
theorem dX6_text_27 : decode cX6_text 27 = .ok (.getfield 10, 3) := by decide +kernel
theorem dX6_text_30 : decode cX6_text 30 = .ok (.getfield 150, 3) := by decide +kernel
theorem dX6_text_33 : decode cX6_text 33 = .ok (.iload_n 1, 1) := by decide +kernel
theorem dX6_text_34 : decode cX6_text 34 = .ok (.invokevirtual 158, 3) := by decide +kernel
theorem dX6_text_37 : decode cX6_text 37 = .ok (.istore_n 2, 1) := by decide +kernel
theorem dX6_text_38 : decode cX6_text 38 = .ok (.aload_n 0, 1) := by decide +kernel
theorem dX6_text_39 : decode cX6_text 39 = .ok (.getfield 10, 3) := by decide +kernel
theorem dX6_text_42 : decode cX6_text 42 = .ok (.iconst 0, 1) := by decide +kernel
theorem dX6_text_43 : decode cX6_text 43 = .ok (.putfield 150, 3) := by decide +kernel
theorem dX6_text_46 : decode cX6_text 46 = .ok (.iload_n 2, 1) := by decide +kernel
theorem dX6_text_47 : decode cX6_text 47 = .ok (.ifCond .lt 8, 3) := by decide +kernel
theorem dX6_text_50 : decode cX6_text 50 = .ok (.bipush (-10), 2) := by decide +kernel
theorem dX6_text_52 : decode cX6_text 52 = .ok (.iload_n 2, 1) := by decide +kernel
theorem dX6_text_53 : decode cX6_text 53 = .ok (.isub, 1) := by decide +kernel
theorem dX6_text_54 : decode cX6_text 54 = .ok (.ireturn, 1) := by decide +kernel
theorem dX6_text_55 : decode cX6_text 55 = .ok (.aload_n 0, 1) := by decide +kernel
theorem dX6_text_56 : decode cX6_text 56 = .ok (.getfield 10, 3) := by decide +kernel
theorem dX6_text_59 : decode cX6_text 59 = .ok (.iload_n 1, 1) := by decide +kernel
theorem dX6_text_60 : decode cX6_text 60 = .ok (.invokevirtual 162, 3) := by decide +kernel
theorem dX6_text_63 : decode cX6_text 63 = .ok (.aload_n 0, 1) := by decide +kernel
theorem dX6_text_64 : decode cX6_text 64 = .ok (.getfield 29, 3) := by decide +kernel
theorem dX6_text_67 : decode cX6_text 67 = .ok (.getfield 166, 3) := by decide +kernel
theorem dX6_text_70 : decode cX6_text 70 = .ok (.aload_n 0, 1) := by decide +kernel
theorem dX6_text_71 : decode cX6_text 71 = .ok (.getfield 29, 3) := by decide +kernel
theorem dX6_text_74 : decode cX6_text 74 = .ok (.getfield 169, 3) := by decide +kernel
theorem dX6_text_77 : decode cX6_text 77 = .ok (.invokevirtual 170, 3) := by decide +kernel
theorem dX6_text_80 : decode cX6_text 80 = .ok (.iconst 1, 1) := by decide +kernel
theorem dX6_text_81 : decode cX6_text 81 = .ok (.ireturn, 1) := by decide +kernel
theorem dX6_law_0 : decode cX6_law 0 = .ok (.iload_n 1, 1) := by decide +kernel
theorem dX6_law_1 : decode cX6_law 1 = .ok (.ifCond .lt 8, 3) := by decide +kernel
theorem dX6_law_4 : decode cX6_law 4 = .ok (.iload_n 1, 1) := by decide +kernel
theorem dX6_law_5 : decode cX6_law 5 = .ok (.iconst 1, 1) := by decide +kernel
theorem dX6_law_6 : decode cX6_law 6 = .ok (.if_icmp .le 9, 3) := by decide +kernel
theorem dX6_law_9 : decode cX6_law 9 = .ok (.aload_n 0, 1) := by decide +kernel
theorem dX6_law_10 : decode cX6_law 10 = .ok (.iconst 1, 1) := by decide +kernel
theorem dX6_law_11 : decode cX6_law 11 = .ok (.invokevirtual 58, 3) := by decide +kernel
theorem dX6_law_14 : decode cX6_law 14 = .ok (.ireturn, 1) := by decide +kernel
theorem dX6_law_15 : decode cX6_law 15 = .ok (.aload_n 0, 1) := by decide +kernel
theorem dX6_law_16 : decode cX6_law 16 = .ok (.getfield 10, 3) := by decide +kernel
theorem dX6_law_19 : decode cX6_law 19 = .ok (.iload_n 1, 1) := by decide +kernel
theorem dX6_law_20 : decode cX6_law 20 = .ok (.invokevirtual 162, 3) := by decide +kernel
theorem dX6_law_23 : decode cX6_law 23 = .ok (.iload_n 2, 1) := by decide +kernel
theorem dX6_law_24 : decode cX6_law 24 = .ok (.iload_n 3, 1) := by decide +kernel
theorem dX6_law_25 : decode cX6_law 25 = .ok (.iload 4, 2) := by decide +kernel
theorem dX6_law_27 : decode cX6_law 27 = .ok (.invokevirtual 176, 3) := by decide +kernel
theorem dX6_law_30 : decode cX6_law 30 = .ok (.ireturn, 1) := by decide +kernel
theorem dX6_vote_0 : decode cX6_vote 0 = .ok (.aload_n 0, 1) := by decide +kernel
theorem dX6_vote_1 : decode cX6_vote 1 = .ok (.getfield 10, 3) := by decide +kernel
theorem dX6_vote_4 : decode cX6_vote 4 = .ok (.iload_n 1, 1) := by decide +kernel
theorem dX6_vote_5 : decode cX6_vote 5 = .ok (.invokevirtual 129, 3) := by decide +kernel
theorem dX6_vote_8 : decode cX6_vote 8 = .ok (.ifCond .ne 9, 3) := by decide +kernel
theorem dX6_vote_11 : decode cX6_vote 11 = .ok (.aload_n 0, 1) := by decide +kernel
theorem dX6_vote_12 : decode cX6_vote 12 = .ok (.iconst 1, 1) := by decide +kernel
theorem dX6_vote_13 : decode cX6_vote 13 = .ok (.invokevirtual 58, 3) := by decide +kernel
theorem dX6_vote_16 : decode cX6_vote 16 = .ok (.ireturn, 1) := by decide +kernel
theorem dX6_vote_17 : decode cX6_vote 17 = .ok (.aload_n 0, 1) := by decide +kernel
theorem dX6_vote_18 : decode cX6_vote 18 = .ok (.getfield 10, 3) := by decide +kernel
theorem dX6_vote_21 : decode cX6_vote 21 = .ok (.iload_n 1, 1) := by decide +kernel
theorem dX6_vote_22 : decode cX6_vote 22 = .ok (.invokevirtual 180, 3) := by decide +kernel
theorem dX6_vote_25 : decode cX6_vote 25 = .ok (.ifCond .eq 7, 3) := by decide +kernel
theorem dX6_vote_28 : decode cX6_vote 28 = .ok (.iconst 1, 1) := by decide +kernel
theorem dX6_vote_29 : decode cX6_vote 29 = .ok (.goto 4, 3) := by decide +kernel
theorem dX6_vote_32 : decode cX6_vote 32 = .ok (.iconst 0, 1) := by decide +kernel
theorem dX6_vote_33 : decode cX6_vote 33 = .ok (.ireturn, 1) := by decide +kernel
theorem dX6_sew_0 : decode cX6_sew 0 = .ok (.aload_n 0, 1) := by decide +kernel
theorem dX6_sew_1 : decode cX6_sew 1 = .ok (.getfield 10, 3) := by decide +kernel
theorem dX6_sew_4 : decode cX6_sew 4 = .ok (.getfield 62, 3) := by decide +kernel
theorem dX6_sew_7 : decode cX6_sew 7 = .ok (.astore_n 3, 1) := by decide +kernel
theorem dX6_sew_8 : decode cX6_sew 8 = .ok (.aload_n 3, 1) := by decide +kernel
theorem dX6_sew_9 : decode cX6_sew 9 = .ok (.iload_n 1, 1) := by decide +kernel
theorem dX6_sew_10 : decode cX6_sew 10 = .ok (.invokevirtual 87, 3) := by decide +kernel
theorem dX6_sew_13 : decode cX6_sew 13 = .ok (.ifCond .eq 12, 3) := by decide +kernel
theorem dX6_sew_16 : decode cX6_sew 16 = .ok (.iload_n 2, 1) := by decide +kernel
theorem dX6_sew_17 : decode cX6_sew 17 = .ok (.ifCond .lt 8, 3) := by decide +kernel
theorem dX6_sew_20 : decode cX6_sew 20 = .ok (.iload_n 2, 1) := by decide +kernel
theorem dX6_sew_21 : decode cX6_sew 21 = .ok (.iconst 1, 1) := by decide +kernel
theorem dX6_sew_22 : decode cX6_sew 22 = .ok (.if_icmp .le 9, 3) := by decide +kernel
theorem dX6_sew_25 : decode cX6_sew 25 = .ok (.aload_n 0, 1) := by decide +kernel
theorem dX6_sew_26 : decode cX6_sew 26 = .ok (.iconst 1, 1) := by decide +kernel
theorem dX6_sew_27 : decode cX6_sew 27 = .ok (.invokevirtual 58, 3) := by decide +kernel
theorem dX6_sew_30 : decode cX6_sew 30 = .ok (.ireturn, 1) := by decide +kernel
theorem dX6_sew_31 : decode cX6_sew 31 = .ok (.aload_n 3, 1) := by decide +kernel
theorem dX6_sew_32 : decode cX6_sew 32 = .ok (.iload_n 2, 1) := by decide +kernel
theorem dX6_sew_33 : decode cX6_sew 33 = .ok (.invokevirtual 109, 3) := by decide +kernel
theorem dX6_sew_36 : decode cX6_sew 36 = .ok (.astore 4, 2) := by decide +kernel
theorem dX6_sew_38 : decode cX6_sew 38 = .ok (.aload 4, 2) := by decide +kernel
theorem dX6_sew_40 : decode cX6_sew 40 = .ok (.iload_n 1, 1) := by decide +kernel
theorem dX6_sew_41 : decode cX6_sew 41 = .ok (.iaload, 1) := by decide +kernel
theorem dX6_sew_42 : decode cX6_sew 42 = .ok (.bipush 9, 2) := by decide +kernel
theorem dX6_sew_44 : decode cX6_sew 44 = .ok (.if_icmp .lt 9, 3) := by decide +kernel
theorem dX6_sew_47 : decode cX6_sew 47 = .ok (.aload_n 0, 1) := by decide +kernel
theorem dX6_sew_48 : decode cX6_sew 48 = .ok (.iconst 1, 1) := by decide +kernel
theorem dX6_sew_49 : decode cX6_sew 49 = .ok (.invokevirtual 58, 3) := by decide +kernel
theorem dX6_sew_52 : decode cX6_sew 52 = .ok (.ireturn, 1) := by decide +kernel
theorem dX6_sew_53 : decode cX6_sew 53 = .ok (.iload_n 2, 1) := by decide +kernel
theorem dX6_sew_54 : decode cX6_sew 54 = .ok (.iconst 1, 1) := by decide +kernel
theorem dX6_sew_55 : decode cX6_sew 55 = .ok (.if_icmp .ne 13, 3) := by decide +kernel
theorem dX6_sew_58 : decode cX6_sew 58 = .ok (.aload_n 0, 1) := by decide +kernel
theorem dX6_sew_59 : decode cX6_sew 59 = .ok (.getfield 10, 3) := by decide +kernel
theorem dX6_sew_62 : decode cX6_sew 62 = .ok (.getfield 183, 3) := by decide +kernel
theorem dX6_sew_65 : decode cX6_sew 65 = .ok (.goto 10, 3) := by decide +kernel
theorem dX6_sew_68 : decode cX6_sew 68 = .ok (.aload_n 0, 1) := by decide +kernel
theorem dX6_sew_69 : decode cX6_sew 69 = .ok (.getfield 10, 3) := by decide +kernel
theorem dX6_sew_72 : decode cX6_sew 72 = .ok (.getfield 186, 3) := by decide +kernel
theorem dX6_sew_75 : decode cX6_sew 75 = .ok (.istore 5, 2) := by decide +kernel
theorem dX6_sew_77 : decode cX6_sew 77 = .ok (.aload_n 3, 1) := by decide +kernel
theorem dX6_sew_78 : decode cX6_sew 78 = .ok (.getfield 84, 3) := by decide +kernel
theorem dX6_sew_81 : decode cX6_sew 81 = .ok (.iload_n 1, 1) := by decide +kernel
theorem dX6_sew_82 : decode cX6_sew 82 = .ok (.iaload, 1) := by decide +kernel
theorem dX6_sew_83 : decode cX6_sew 83 = .ok (.ifCond .eq 27, 3) := by decide +kernel
theorem dX6_sew_86 : decode cX6_sew 86 = .ok (.aload_n 0, 1) := by decide +kernel
theorem dX6_sew_87 : decode cX6_sew 87 = .ok (.getfield 10, 3) := by decide +kernel
theorem dX6_sew_90 : decode cX6_sew 90 = .ok (.getfield 147, 3) := by decide +kernel
theorem dX6_sew_93 : decode cX6_sew 93 = .ok (.ifCond .eq 17, 3) := by decide +kernel
theorem dX6_sew_96 : decode cX6_sew 96 = .ok (.iload 5, 2) := by decide +kernel
theorem dX6_sew_98 : decode cX6_sew 98 = .ok (.ifCond .eq 12, 3) := by decide +kernel
theorem dX6_sew_101 : decode cX6_sew 101 = .ok (.aload_n 3, 1) := by decide +kernel
theorem dX6_sew_102 : decode cX6_sew 102 = .ok (.getfield 81, 3) := by decide +kernel
theorem dX6_sew_105 : decode cX6_sew 105 = .ok (.iload_n 1, 1) := by decide +kernel
theorem dX6_sew_106 : decode cX6_sew 106 = .ok (.iaload, 1) := by decide +kernel
theorem dX6_sew_107 : decode cX6_sew 107 = .ok (.ifCond .ne 9, 3) := by decide +kernel
theorem dX6_sew_110 : decode cX6_sew 110 = .ok (.aload_n 0, 1) := by decide +kernel
theorem dX6_sew_111 : decode cX6_sew 111 = .ok (.iconst 3, 1) := by decide +kernel
theorem dX6_sew_112 : decode cX6_sew 112 = .ok (.invokevirtual 58, 3) := by decide +kernel
theorem dX6_sew_115 : decode cX6_sew 115 = .ok (.ireturn, 1) := by decide +kernel
theorem dX6_sew_116 : decode cX6_sew 116 = .ok (.iload_n 2, 1) := by decide +kernel
theorem dX6_sew_117 : decode cX6_sew 117 = .ok (.iconst 1, 1) := by decide +kernel
theorem dX6_sew_118 : decode cX6_sew 118 = .ok (.if_icmp .ne 19, 3) := by decide +kernel
theorem dX6_sew_121 : decode cX6_sew 121 = .ok (.aload_n 0, 1) := by decide +kernel
theorem dX6_sew_122 : decode cX6_sew 122 = .ok (.getfield 10, 3) := by decide +kernel
theorem dX6_sew_125 : decode cX6_sew 125 = .ok (.dup, 1) := by decide +kernel
theorem dX6_sew_126 : decode cX6_sew 126 = .ok (.getfield 183, 3) := by decide +kernel
theorem dX6_sew_129 : decode cX6_sew 129 = .ok (.iconst 1, 1) := by decide +kernel
theorem dX6_sew_130 : decode cX6_sew 130 = .ok (.isub, 1) := by decide +kernel
theorem dX6_sew_131 : decode cX6_sew 131 = .ok (.putfield 183, 3) := by decide +kernel
theorem dX6_sew_134 : decode cX6_sew 134 = .ok (.goto 16, 3) := by decide +kernel
theorem dX6_sew_137 : decode cX6_sew 137 = .ok (.aload_n 0, 1) := by decide +kernel
theorem dX6_sew_138 : decode cX6_sew 138 = .ok (.getfield 10, 3) := by decide +kernel
theorem dX6_sew_141 : decode cX6_sew 141 = .ok (.dup, 1) := by decide +kernel
theorem dX6_sew_142 : decode cX6_sew 142 = .ok (.getfield 186, 3) := by decide +kernel
theorem dX6_sew_145 : decode cX6_sew 145 = .ok (.iconst 1, 1) := by decide +kernel
theorem dX6_sew_146 : decode cX6_sew 146 = .ok (.isub, 1) := by decide +kernel
theorem dX6_sew_147 : decode cX6_sew 147 = .ok (.putfield 186, 3) := by decide +kernel
theorem dX6_sew_150 : decode cX6_sew 150 = .ok (.aload_n 0, 1) := by decide +kernel
theorem dX6_sew_151 : decode cX6_sew 151 = .ok (.getfield 10, 3) := by decide +kernel
theorem dX6_sew_154 : decode cX6_sew 154 = .ok (.dup, 1) := by decide +kernel
theorem dX6_sew_155 : decode cX6_sew 155 = .ok (.getfield 147, 3) := by decide +kernel
theorem dX6_sew_158 : decode cX6_sew 158 = .ok (.iconst 1, 1) := by decide +kernel
theorem dX6_sew_159 : decode cX6_sew 159 = .ok (.isub, 1) := by decide +kernel
theorem dX6_sew_160 : decode cX6_sew 160 = .ok (.putfield 147, 3) := by decide +kernel
theorem dX6_sew_163 : decode cX6_sew 163 = .ok (.aload 4, 2) := by decide +kernel
theorem dX6_sew_165 : decode cX6_sew 165 = .ok (.iload_n 1, 1) := by decide +kernel
theorem dX6_sew_166 : decode cX6_sew 166 = .ok (.dup2, 1) := by decide +kernel
theorem dX6_sew_167 : decode cX6_sew 167 = .ok (.iaload, 1) := by decide +kernel
theorem dX6_sew_168 : decode cX6_sew 168 = .ok (.iconst 1, 1) := by decide +kernel
theorem dX6_sew_169 : decode cX6_sew 169 = .ok (.iadd, 1) := by decide +kernel
theorem dX6_sew_170 : decode cX6_sew 170 = .ok (.iastore, 1) := by decide +kernel
theorem dX6_sew_171 : decode cX6_sew 171 = .ok (.aload_n 3, 1) := by decide +kernel
theorem dX6_sew_172 : decode cX6_sew 172 = .ok (.getfield 81, 3) := by decide +kernel
theorem dX6_sew_175 : decode cX6_sew 175 = .ok (.iload_n 1, 1) := by decide +kernel
theorem dX6_sew_176 : decode cX6_sew 176 = .ok (.dup2, 1) := by decide +kernel
theorem dX6_sew_177 : decode cX6_sew 177 = .ok (.iaload, 1) := by decide +kernel
theorem dX6_sew_178 : decode cX6_sew 178 = .ok (.iconst 1, 1) := by decide +kernel
theorem dX6_sew_179 : decode cX6_sew 179 = .ok (.isub, 1) := by decide +kernel
theorem dX6_sew_180 : decode cX6_sew 180 = .ok (.iastore, 1) := by decide +kernel
theorem dX6_sew_181 : decode cX6_sew 181 = .ok (.aload_n 3, 1) := by decide +kernel
theorem dX6_sew_182 : decode cX6_sew 182 = .ok (.getfield 81, 3) := by decide +kernel
theorem dX6_sew_185 : decode cX6_sew 185 = .ok (.iload_n 1, 1) := by decide +kernel
theorem dX6_sew_186 : decode cX6_sew 186 = .ok (.iaload, 1) := by decide +kernel
theorem dX6_sew_187 : decode cX6_sew 187 = .ok (.ireturn, 1) := by decide +kernel
theorem dX6_days_0 : decode cX6_days 0 = .ok (.iload_n 1, 1) := by decide +kernel
theorem dX6_days_1 : decode cX6_days 1 = .ok (.iconst 1, 1) := by decide +kernel
theorem dX6_days_2 : decode cX6_days 2 = .ok (.if_icmp .lt 9, 3) := by decide +kernel
theorem dX6_days_5 : decode cX6_days 5 = .ok (.iload_n 1, 1) := by decide +kernel
theorem dX6_days_6 : decode cX6_days 6 = .ok (.bipush 60, 2) := by decide +kernel
theorem dX6_days_8 : decode cX6_days 8 = .ok (.if_icmp .le 9, 3) := by decide +kernel
theorem dX6_days_11 : decode cX6_days 11 = .ok (.aload_n 0, 1) := by decide +kernel
theorem dX6_days_12 : decode cX6_days 12 = .ok (.iconst 1, 1) := by decide +kernel
theorem dX6_days_13 : decode cX6_days 13 = .ok (.invokevirtual 58, 3) := by decide +kernel
theorem dX6_days_16 : decode cX6_days 16 = .ok (.ireturn, 1) := by decide +kernel
theorem dX6_days_17 : decode cX6_days 17 = .ok (.aload_n 0, 1) := by decide +kernel
theorem dX6_days_18 : decode cX6_days 18 = .ok (.getfield 10, 3) := by decide +kernel
theorem dX6_days_21 : decode cX6_days 21 = .ok (.getfield 189, 3) := by decide +kernel
theorem dX6_days_24 : decode cX6_days 24 = .ok (.iload_n 1, 1) := by decide +kernel
theorem dX6_days_25 : decode cX6_days 25 = .ok (.iadd, 1) := by decide +kernel
theorem dX6_days_26 : decode cX6_days 26 = .ok (.sipush 9999, 3) := by decide +kernel
theorem dX6_days_29 : decode cX6_days 29 = .ok (.if_icmp .le 9, 3) := by decide +kernel
theorem dX6_days_32 : decode cX6_days 32 = .ok (.aload_n 0, 1) := by decide +kernel
theorem dX6_days_33 : decode cX6_days 33 = .ok (.iconst 3, 1) := by decide +kernel
theorem dX6_days_34 : decode cX6_days 34 = .ok (.invokevirtual 58, 3) := by decide +kernel
theorem dX6_days_37 : decode cX6_days 37 = .ok (.ireturn, 1) := by decide +kernel
theorem dX6_days_38 : decode cX6_days 38 = .ok (.iconst 0, 1) := by decide +kernel
theorem dX6_days_39 : decode cX6_days 39 = .ok (.istore_n 2, 1) := by decide +kernel
theorem dX6_days_40 : decode cX6_days 40 = .ok (.iload_n 2, 1) := by decide +kernel
theorem dX6_days_41 : decode cX6_days 41 = .ok (.iload_n 1, 1) := by decide +kernel
theorem dX6_days_42 : decode cX6_days 42 = .ok (.if_icmp .ge 16, 3) := by decide +kernel
theorem dX6_days_45 : decode cX6_days 45 = .ok (.aload_n 0, 1) := by decide +kernel
theorem dX6_days_46 : decode cX6_days 46 = .ok (.getfield 10, 3) := by decide +kernel
theorem dX6_days_49 : decode cX6_days 49 = .ok (.invokevirtual 192, 3) := by decide +kernel
theorem dX6_days_52 : decode cX6_days 52 = .ok (.iinc 2 1, 3) := by decide +kernel
theorem dX6_days_55 : decode cX6_days 55 = .ok (.goto (-15), 3) := by decide +kernel
theorem dX6_days_58 : decode cX6_days 58 = .ok (.aload_n 0, 1) := by decide +kernel
theorem dX6_days_59 : decode cX6_days 59 = .ok (.getfield 10, 3) := by decide +kernel
theorem dX6_days_62 : decode cX6_days 62 = .ok (.getfield 62, 3) := by decide +kernel
theorem dX6_days_65 : decode cX6_days 65 = .ok (.invokevirtual 195, 3) := by decide +kernel
theorem dX6_days_68 : decode cX6_days 68 = .ok (.invokestatic 199, 3) := by decide +kernel
theorem dX6_days_71 : decode cX6_days 71 = .ok (.ireturn, 1) := by decide +kernel
theorem dX6_loose_0 : decode cX6_loose 0 = .ok (.iload_n 1, 1) := by decide +kernel
theorem dX6_loose_1 : decode cX6_loose 1 = .ok (.iconst 1, 1) := by decide +kernel
theorem dX6_loose_2 : decode cX6_loose 2 = .ok (.if_icmp .lt 9, 3) := by decide +kernel
theorem dX6_loose_5 : decode cX6_loose 5 = .ok (.iload_n 1, 1) := by decide +kernel
theorem dX6_loose_6 : decode cX6_loose 6 = .ok (.bipush 40, 2) := by decide +kernel
theorem dX6_loose_8 : decode cX6_loose 8 = .ok (.if_icmp .le 9, 3) := by decide +kernel
theorem dX6_loose_11 : decode cX6_loose 11 = .ok (.aload_n 0, 1) := by decide +kernel
theorem dX6_loose_12 : decode cX6_loose 12 = .ok (.iconst 1, 1) := by decide +kernel
theorem dX6_loose_13 : decode cX6_loose 13 = .ok (.invokevirtual 58, 3) := by decide +kernel
theorem dX6_loose_16 : decode cX6_loose 16 = .ok (.ireturn, 1) := by decide +kernel
theorem dX6_loose_17 : decode cX6_loose 17 = .ok (.aload_n 0, 1) := by decide +kernel
theorem dX6_loose_18 : decode cX6_loose 18 = .ok (.getfield 10, 3) := by decide +kernel
theorem dX6_loose_21 : decode cX6_loose 21 = .ok (.getfield 189, 3) := by decide +kernel
theorem dX6_loose_24 : decode cX6_loose 24 = .ok (.iload_n 1, 1) := by decide +kernel
theorem dX6_loose_25 : decode cX6_loose 25 = .ok (.iadd, 1) := by decide +kernel
theorem dX6_loose_26 : decode cX6_loose 26 = .ok (.sipush 9999, 3) := by decide +kernel
theorem dX6_loose_29 : decode cX6_loose 29 = .ok (.if_icmp .le 9, 3) := by decide +kernel
theorem dX6_loose_32 : decode cX6_loose 32 = .ok (.aload_n 0, 1) := by decide +kernel
theorem dX6_loose_33 : decode cX6_loose 33 = .ok (.iconst 3, 1) := by decide +kernel
theorem dX6_loose_34 : decode cX6_loose 34 = .ok (.invokevirtual 58, 3) := by decide +kernel
theorem dX6_loose_37 : decode cX6_loose 37 = .ok (.ireturn, 1) := by decide +kernel
theorem dX6_loose_38 : decode cX6_loose 38 = .ok (.iconst 0, 1) := by decide +kernel
theorem dX6_loose_39 : decode cX6_loose 39 = .ok (.istore_n 2, 1) := by decide +kernel
theorem dX6_loose_40 : decode cX6_loose 40 = .ok (.iload_n 2, 1) := by decide +kernel
theorem dX6_loose_41 : decode cX6_loose 41 = .ok (.iload_n 1, 1) := by decide +kernel
theorem dX6_loose_42 : decode cX6_loose 42 = .ok (.if_icmp .ge 66, 3) := by decide +kernel
theorem dX6_loose_45 : decode cX6_loose 45 = .ok (.aload_n 0, 1) := by decide +kernel
theorem dX6_loose_46 : decode cX6_loose 46 = .ok (.getfield 10, 3) := by decide +kernel
theorem dX6_loose_49 : decode cX6_loose 49 = .ok (.aload_n 0, 1) := by decide +kernel
theorem dX6_loose_50 : decode cX6_loose 50 = .ok (.getfield 10, 3) := by decide +kernel
theorem dX6_loose_53 : decode cX6_loose 53 = .ok (.invokevirtual 204, 3) := by decide +kernel
theorem dX6_loose_56 : decode cX6_loose 56 = .ok (.bipush 10, 2) := by decide +kernel
theorem dX6_loose_58 : decode cX6_loose 58 = .ok (.irem, 1) := by decide +kernel
theorem dX6_loose_59 : decode cX6_loose 59 = .ok (.putfield 144, 3) := by decide +kernel
theorem dX6_loose_62 : decode cX6_loose 62 = .ok (.aload_n 0, 1) := by decide +kernel
theorem dX6_loose_63 : decode cX6_loose 63 = .ok (.getfield 10, 3) := by decide +kernel
theorem dX6_loose_66 : decode cX6_loose 66 = .ok (.getfield 120, 3) := by decide +kernel
theorem dX6_loose_69 : decode cX6_loose 69 = .ok (.ifCond .le 26, 3) := by decide +kernel
theorem dX6_loose_72 : decode cX6_loose 72 = .ok (.aload_n 0, 1) := by decide +kernel
theorem dX6_loose_73 : decode cX6_loose 73 = .ok (.getfield 10, 3) := by decide +kernel
theorem dX6_loose_76 : decode cX6_loose 76 = .ok (.aload_n 0, 1) := by decide +kernel
theorem dX6_loose_77 : decode cX6_loose 77 = .ok (.getfield 10, 3) := by decide +kernel
theorem dX6_loose_80 : decode cX6_loose 80 = .ok (.invokevirtual 204, 3) := by decide +kernel
theorem dX6_loose_83 : decode cX6_loose 83 = .ok (.aload_n 0, 1) := by decide +kernel
theorem dX6_loose_84 : decode cX6_loose 84 = .ok (.getfield 10, 3) := by decide +kernel
theorem dX6_loose_87 : decode cX6_loose 87 = .ok (.getfield 120, 3) := by decide +kernel
theorem dX6_loose_90 : decode cX6_loose 90 = .ok (.irem, 1) := by decide +kernel
theorem dX6_loose_91 : decode cX6_loose 91 = .ok (.invokevirtual 180, 3) := by decide +kernel
theorem dX6_loose_94 : decode cX6_loose 94 = .ok (.pop, 1) := by decide +kernel
theorem dX6_loose_95 : decode cX6_loose 95 = .ok (.aload_n 0, 1) := by decide +kernel
theorem dX6_loose_96 : decode cX6_loose 96 = .ok (.getfield 10, 3) := by decide +kernel
theorem dX6_loose_99 : decode cX6_loose 99 = .ok (.invokevirtual 192, 3) := by decide +kernel
theorem dX6_loose_102 : decode cX6_loose 102 = .ok (.iinc 2 1, 3) := by decide +kernel
theorem dX6_loose_105 : decode cX6_loose 105 = .ok (.goto (-65), 3) := by decide +kernel
theorem dX6_loose_108 : decode cX6_loose 108 = .ok (.aload_n 0, 1) := by decide +kernel
theorem dX6_loose_109 : decode cX6_loose 109 = .ok (.getfield 10, 3) := by decide +kernel
theorem dX6_loose_112 : decode cX6_loose 112 = .ok (.getfield 62, 3) := by decide +kernel
theorem dX6_loose_115 : decode cX6_loose 115 = .ok (.invokevirtual 195, 3) := by decide +kernel
theorem dX6_loose_118 : decode cX6_loose 118 = .ok (.invokestatic 199, 3) := by decide +kernel
theorem dX6_loose_121 : decode cX6_loose 121 = .ok (.ireturn, 1) := by decide +kernel
theorem dX6_live_0 : decode cX6_live 0 = .ok (.iload_n 1, 1) := by decide +kernel
theorem dX6_live_1 : decode cX6_live 1 = .ok (.ifCond .lt 9, 3) := by decide +kernel
theorem dX6_live_4 : decode cX6_live 4 = .ok (.iload_n 1, 1) := by decide +kernel
theorem dX6_live_5 : decode cX6_live 5 = .ok (.bipush 60, 2) := by decide +kernel
theorem dX6_live_7 : decode cX6_live 7 = .ok (.if_icmp .le 9, 3) := by decide +kernel
theorem dX6_live_10 : decode cX6_live 10 = .ok (.aload_n 0, 1) := by decide +kernel
theorem dX6_live_11 : decode cX6_live 11 = .ok (.iconst 1, 1) := by decide +kernel
theorem dX6_live_12 : decode cX6_live 12 = .ok (.invokevirtual 58, 3) := by decide +kernel
theorem dX6_live_15 : decode cX6_live 15 = .ok (.ireturn, 1) := by decide +kernel
theorem dX6_live_16 : decode cX6_live 16 = .ok (.aload_n 0, 1) := by decide +kernel
theorem dX6_live_17 : decode cX6_live 17 = .ok (.aload_n 0, 1) := by decide +kernel
theorem dX6_live_18 : decode cX6_live 18 = .ok (.getfield 10, 3) := by decide +kernel
theorem dX6_live_21 : decode cX6_live 21 = .ok (.getfield 144, 3) := by decide +kernel
theorem dX6_live_24 : decode cX6_live 24 = .ok (.iload_n 1, 1) := by decide +kernel
theorem dX6_live_25 : decode cX6_live 25 = .ok (.invokevirtual 207, 3) := by decide +kernel
theorem dX6_live_28 : decode cX6_live 28 = .ok (.aload_n 0, 1) := by decide +kernel
theorem dX6_live_29 : decode cX6_live 29 = .ok (.getfield 10, 3) := by decide +kernel
theorem dX6_live_32 : decode cX6_live 32 = .ok (.getfield 62, 3) := by decide +kernel
theorem dX6_live_35 : decode cX6_live 35 = .ok (.astore_n 2, 1) := by decide +kernel
theorem dX6_live_36 : decode cX6_live 36 = .ok (.iconst 0, 1) := by decide +kernel
theorem dX6_live_37 : decode cX6_live 37 = .ok (.istore_n 3, 1) := by decide +kernel
theorem dX6_live_38 : decode cX6_live 38 = .ok (.iconst 0, 1) := by decide +kernel
theorem dX6_live_39 : decode cX6_live 39 = .ok (.istore 4, 2) := by decide +kernel
theorem dX6_live_41 : decode cX6_live 41 = .ok (.iload 4, 2) := by decide +kernel
theorem dX6_live_43 : decode cX6_live 43 = .ok (.aload_n 2, 1) := by decide +kernel
theorem dX6_live_44 : decode cX6_live 44 = .ok (.getfield 65, 3) := by decide +kernel
theorem dX6_live_47 : decode cX6_live 47 = .ok (.if_icmp .ge 33, 3) := by decide +kernel
theorem dX6_live_50 : decode cX6_live 50 = .ok (.aload_n 0, 1) := by decide +kernel
theorem dX6_live_51 : decode cX6_live 51 = .ok (.iload 4, 2) := by decide +kernel
theorem dX6_live_53 : decode cX6_live 53 = .ok (.aload_n 2, 1) := by decide +kernel
theorem dX6_live_54 : decode cX6_live 54 = .ok (.getfield 81, 3) := by decide +kernel
theorem dX6_live_57 : decode cX6_live 57 = .ok (.iload 4, 2) := by decide +kernel
theorem dX6_live_59 : decode cX6_live 59 = .ok (.iaload, 1) := by decide +kernel
theorem dX6_live_60 : decode cX6_live 60 = .ok (.iload_n 1, 1) := by decide +kernel
theorem dX6_live_61 : decode cX6_live 61 = .ok (.invokevirtual 211, 3) := by decide +kernel
theorem dX6_live_64 : decode cX6_live 64 = .ok (.ifCond .eq 10, 3) := by decide +kernel
theorem dX6_live_67 : decode cX6_live 67 = .ok (.iload_n 3, 1) := by decide +kernel
theorem dX6_live_68 : decode cX6_live 68 = .ok (.iconst 1, 1) := by decide +kernel
theorem dX6_live_69 : decode cX6_live 69 = .ok (.iload 4, 2) := by decide +kernel
theorem dX6_live_71 : decode cX6_live 71 = .ok (.ishl, 1) := by decide +kernel
theorem dX6_live_72 : decode cX6_live 72 = .ok (.ior, 1) := by decide +kernel
theorem dX6_live_73 : decode cX6_live 73 = .ok (.istore_n 3, 1) := by decide +kernel
theorem dX6_live_74 : decode cX6_live 74 = .ok (.iinc 4 1, 3) := by decide +kernel
theorem dX6_live_77 : decode cX6_live 77 = .ok (.goto (-36), 3) := by decide +kernel
theorem dX6_live_80 : decode cX6_live 80 = .ok (.iload_n 3, 1) := by decide +kernel
theorem dX6_live_81 : decode cX6_live 81 = .ok (.ireturn, 1) := by decide +kernel
theorem dX6_freezes_0 : decode cX6_freezes 0 = .ok (.aload_n 0, 1) := by decide +kernel
theorem dX6_freezes_1 : decode cX6_freezes 1 = .ok (.getfield 10, 3) := by decide +kernel
theorem dX6_freezes_4 : decode cX6_freezes 4 = .ok (.getfield 62, 3) := by decide +kernel
theorem dX6_freezes_7 : decode cX6_freezes 7 = .ok (.iload_n 1, 1) := by decide +kernel
theorem dX6_freezes_8 : decode cX6_freezes 8 = .ok (.invokevirtual 87, 3) := by decide +kernel
theorem dX6_freezes_11 : decode cX6_freezes 11 = .ok (.ifCond .ne 9, 3) := by decide +kernel
theorem dX6_freezes_14 : decode cX6_freezes 14 = .ok (.aload_n 0, 1) := by decide +kernel
theorem dX6_freezes_15 : decode cX6_freezes 15 = .ok (.iconst 1, 1) := by decide +kernel
theorem dX6_freezes_16 : decode cX6_freezes 16 = .ok (.invokevirtual 58, 3) := by decide +kernel
theorem dX6_freezes_19 : decode cX6_freezes 19 = .ok (.ireturn, 1) := by decide +kernel
theorem dX6_freezes_20 : decode cX6_freezes 20 = .ok (.aload_n 0, 1) := by decide +kernel
theorem dX6_freezes_21 : decode cX6_freezes 21 = .ok (.aload_n 0, 1) := by decide +kernel
theorem dX6_freezes_22 : decode cX6_freezes 22 = .ok (.getfield 10, 3) := by decide +kernel
theorem dX6_freezes_25 : decode cX6_freezes 25 = .ok (.getfield 144, 3) := by decide +kernel
theorem dX6_freezes_28 : decode cX6_freezes 28 = .ok (.bipush 60, 2) := by decide +kernel
theorem dX6_freezes_30 : decode cX6_freezes 30 = .ok (.invokevirtual 207, 3) := by decide +kernel
theorem dX6_freezes_33 : decode cX6_freezes 33 = .ok (.aload_n 0, 1) := by decide +kernel
theorem dX6_freezes_34 : decode cX6_freezes 34 = .ok (.iload_n 1, 1) := by decide +kernel
theorem dX6_freezes_35 : decode cX6_freezes 35 = .ok (.aload_n 0, 1) := by decide +kernel
theorem dX6_freezes_36 : decode cX6_freezes 36 = .ok (.getfield 10, 3) := by decide +kernel
theorem dX6_freezes_39 : decode cX6_freezes 39 = .ok (.getfield 62, 3) := by decide +kernel
theorem dX6_freezes_42 : decode cX6_freezes 42 = .ok (.getfield 81, 3) := by decide +kernel
theorem dX6_freezes_45 : decode cX6_freezes 45 = .ok (.iload_n 1, 1) := by decide +kernel
theorem dX6_freezes_46 : decode cX6_freezes 46 = .ok (.iaload, 1) := by decide +kernel
theorem dX6_freezes_47 : decode cX6_freezes 47 = .ok (.bipush 60, 2) := by decide +kernel
theorem dX6_freezes_49 : decode cX6_freezes 49 = .ok (.invokevirtual 215, 3) := by decide +kernel
theorem dX6_freezes_52 : decode cX6_freezes 52 = .ok (.istore_n 2, 1) := by decide +kernel
theorem dX6_freezes_53 : decode cX6_freezes 53 = .ok (.iload_n 2, 1) := by decide +kernel
theorem dX6_freezes_54 : decode cX6_freezes 54 = .ok (.bipush 60, 2) := by decide +kernel
theorem dX6_freezes_56 : decode cX6_freezes 56 = .ok (.if_icmp .le 11, 3) := by decide +kernel
theorem dX6_freezes_59 : decode cX6_freezes 59 = .ok (.aload_n 0, 1) := by decide +kernel
theorem dX6_freezes_60 : decode cX6_freezes 60 = .ok (.iconst 2, 1) := by decide +kernel
theorem dX6_freezes_61 : decode cX6_freezes 61 = .ok (.invokevirtual 58, 3) := by decide +kernel
theorem dX6_freezes_64 : decode cX6_freezes 64 = .ok (.goto 4, 3) := by decide +kernel
theorem dX6_freezes_67 : decode cX6_freezes 67 = .ok (.iload_n 2, 1) := by decide +kernel
theorem dX6_freezes_68 : decode cX6_freezes 68 = .ok (.ireturn, 1) := by decide +kernel
theorem dX6_firstDay_0 : decode cX6_firstDay 0 = .ok (.aload_n 0, 1) := by decide +kernel
theorem dX6_firstDay_1 : decode cX6_firstDay 1 = .ok (.getfield 10, 3) := by decide +kernel
theorem dX6_firstDay_4 : decode cX6_firstDay 4 = .ok (.iload_n 1, 1) := by decide +kernel
theorem dX6_firstDay_5 : decode cX6_firstDay 5 = .ok (.invokevirtual 129, 3) := by decide +kernel
theorem dX6_firstDay_8 : decode cX6_firstDay 8 = .ok (.ifCond .ne 9, 3) := by decide +kernel
theorem dX6_firstDay_11 : decode cX6_firstDay 11 = .ok (.aload_n 0, 1) := by decide +kernel
theorem dX6_firstDay_12 : decode cX6_firstDay 12 = .ok (.iconst 1, 1) := by decide +kernel
theorem dX6_firstDay_13 : decode cX6_firstDay 13 = .ok (.invokevirtual 58, 3) := by decide +kernel
theorem dX6_firstDay_16 : decode cX6_firstDay 16 = .ok (.ireturn, 1) := by decide +kernel
theorem dX6_firstDay_17 : decode cX6_firstDay 17 = .ok (.aload_n 0, 1) := by decide +kernel
theorem dX6_firstDay_18 : decode cX6_firstDay 18 = .ok (.aload_n 0, 1) := by decide +kernel
theorem dX6_firstDay_19 : decode cX6_firstDay 19 = .ok (.getfield 10, 3) := by decide +kernel
theorem dX6_firstDay_22 : decode cX6_firstDay 22 = .ok (.getfield 144, 3) := by decide +kernel
theorem dX6_firstDay_25 : decode cX6_firstDay 25 = .ok (.bipush 60, 2) := by decide +kernel
theorem dX6_firstDay_27 : decode cX6_firstDay 27 = .ok (.invokevirtual 207, 3) := by decide +kernel
theorem dX6_firstDay_30 : decode cX6_firstDay 30 = .ok (.aload_n 0, 1) := by decide +kernel
theorem dX6_firstDay_31 : decode cX6_firstDay 31 = .ok (.getfield 22, 3) := by decide +kernel
theorem dX6_firstDay_34 : decode cX6_firstDay 34 = .ok (.aload_n 0, 1) := by decide +kernel
theorem dX6_firstDay_35 : decode cX6_firstDay 35 = .ok (.getfield 10, 3) := by decide +kernel
theorem dX6_firstDay_38 : decode cX6_firstDay 38 = .ok (.getfield 62, 3) := by decide +kernel
theorem dX6_firstDay_41 : decode cX6_firstDay 41 = .ok (.invokevirtual 218, 3) := by decide +kernel
theorem dX6_firstDay_44 : decode cX6_firstDay 44 = .ok (.iconst 0, 1) := by decide +kernel
theorem dX6_firstDay_45 : decode cX6_firstDay 45 = .ok (.istore_n 2, 1) := by decide +kernel
theorem dX6_firstDay_46 : decode cX6_firstDay 46 = .ok (.iload_n 2, 1) := by decide +kernel
theorem dX6_firstDay_47 : decode cX6_firstDay 47 = .ok (.bipush 60, 2) := by decide +kernel
theorem dX6_firstDay_49 : decode cX6_firstDay 49 = .ok (.if_icmp .gt 68, 3) := by decide +kernel
theorem dX6_firstDay_52 : decode cX6_firstDay 52 = .ok (.aload_n 0, 1) := by decide +kernel
theorem dX6_firstDay_53 : decode cX6_firstDay 53 = .ok (.getfield 22, 3) := by decide +kernel
theorem dX6_firstDay_56 : decode cX6_firstDay 56 = .ok (.aload_n 0, 1) := by decide +kernel
theorem dX6_firstDay_57 : decode cX6_firstDay 57 = .ok (.getfield 10, 3) := by decide +kernel
theorem dX6_firstDay_60 : decode cX6_firstDay 60 = .ok (.getfield 126, 3) := by decide +kernel
theorem dX6_firstDay_63 : decode cX6_firstDay 63 = .ok (.iload_n 1, 1) := by decide +kernel
theorem dX6_firstDay_64 : decode cX6_firstDay 64 = .ok (.iaload, 1) := by decide +kernel
theorem dX6_firstDay_65 : decode cX6_firstDay 65 = .ok (.aload_n 0, 1) := by decide +kernel
theorem dX6_firstDay_66 : decode cX6_firstDay 66 = .ok (.getfield 10, 3) := by decide +kernel
theorem dX6_firstDay_69 : decode cX6_firstDay 69 = .ok (.getfield 123, 3) := by decide +kernel
theorem dX6_firstDay_72 : decode cX6_firstDay 72 = .ok (.iload_n 1, 1) := by decide +kernel
theorem dX6_firstDay_73 : decode cX6_firstDay 73 = .ok (.iaload, 1) := by decide +kernel
theorem dX6_firstDay_74 : decode cX6_firstDay 74 = .ok (.invokevirtual 141, 3) := by decide +kernel
theorem dX6_firstDay_77 : decode cX6_firstDay 77 = .ok (.ifCond .eq 5, 3) := by decide +kernel
theorem dX6_firstDay_80 : decode cX6_firstDay 80 = .ok (.iload_n 2, 1) := by decide +kernel
theorem dX6_firstDay_81 : decode cX6_firstDay 81 = .ok (.ireturn, 1) := by decide +kernel
theorem dX6_firstDay_82 : decode cX6_firstDay 82 = .ok (.iload_n 2, 1) := by decide +kernel
theorem dX6_firstDay_83 : decode cX6_firstDay 83 = .ok (.aload_n 0, 1) := by decide +kernel
theorem dX6_firstDay_84 : decode cX6_firstDay 84 = .ok (.getfield 46, 3) := by decide +kernel
theorem dX6_firstDay_87 : decode cX6_firstDay 87 = .ok (.arraylength, 1) := by decide +kernel
theorem dX6_firstDay_88 : decode cX6_firstDay 88 = .ok (.if_icmp .ge 23, 3) := by decide +kernel
theorem dX6_firstDay_91 : decode cX6_firstDay 91 = .ok (.aload_n 0, 1) := by decide +kernel
theorem dX6_firstDay_92 : decode cX6_firstDay 92 = .ok (.getfield 22, 3) := by decide +kernel
theorem dX6_firstDay_95 : decode cX6_firstDay 95 = .ok (.aload_n 0, 1) := by decide +kernel
theorem dX6_firstDay_96 : decode cX6_firstDay 96 = .ok (.getfield 46, 3) := by decide +kernel
theorem dX6_firstDay_99 : decode cX6_firstDay 99 = .ok (.iload_n 2, 1) := by decide +kernel
theorem dX6_firstDay_100 : decode cX6_firstDay 100 = .ok (.iaload, 1) := by decide +kernel
theorem dX6_firstDay_101 : decode cX6_firstDay 101 = .ok (.aload_n 0, 1) := by decide +kernel
theorem dX6_firstDay_102 : decode cX6_firstDay 102 = .ok (.getfield 10, 3) := by decide +kernel
theorem dX6_firstDay_105 : decode cX6_firstDay 105 = .ok (.getfield 222, 3) := by decide +kernel
theorem dX6_firstDay_108 : decode cX6_firstDay 108 = .ok (.invokevirtual 226, 3) := by decide +kernel
theorem dX6_firstDay_111 : decode cX6_firstDay 111 = .ok (.iinc 2 1, 3) := by decide +kernel
theorem dX6_firstDay_114 : decode cX6_firstDay 114 = .ok (.goto (-68), 3) := by decide +kernel
theorem dX6_firstDay_117 : decode cX6_firstDay 117 = .ok (.aload_n 0, 1) := by decide +kernel
theorem dX6_firstDay_118 : decode cX6_firstDay 118 = .ok (.iconst 2, 1) := by decide +kernel
theorem dX6_firstDay_119 : decode cX6_firstDay 119 = .ok (.invokevirtual 58, 3) := by decide +kernel
theorem dX6_firstDay_122 : decode cX6_firstDay 122 = .ok (.ireturn, 1) := by decide +kernel
theorem dX6_turning_0 : decode cX6_turning 0 = .ok (.aload_n 0, 1) := by decide +kernel
theorem dX6_turning_1 : decode cX6_turning 1 = .ok (.getfield 10, 3) := by decide +kernel
theorem dX6_turning_4 : decode cX6_turning 4 = .ok (.iload_n 1, 1) := by decide +kernel
theorem dX6_turning_5 : decode cX6_turning 5 = .ok (.invokevirtual 129, 3) := by decide +kernel
theorem dX6_turning_8 : decode cX6_turning 8 = .ok (.ifCond .ne 9, 3) := by decide +kernel
theorem dX6_turning_11 : decode cX6_turning 11 = .ok (.aload_n 0, 1) := by decide +kernel
theorem dX6_turning_12 : decode cX6_turning 12 = .ok (.iconst 1, 1) := by decide +kernel
theorem dX6_turning_13 : decode cX6_turning 13 = .ok (.invokevirtual 58, 3) := by decide +kernel
theorem dX6_turning_16 : decode cX6_turning 16 = .ok (.ireturn, 1) := by decide +kernel
theorem dX6_turning_17 : decode cX6_turning 17 = .ok (.aload_n 0, 1) := by decide +kernel
theorem dX6_turning_18 : decode cX6_turning 18 = .ok (.getfield 10, 3) := by decide +kernel
theorem dX6_turning_21 : decode cX6_turning 21 = .ok (.getfield 126, 3) := by decide +kernel
theorem dX6_turning_24 : decode cX6_turning 24 = .ok (.iload_n 1, 1) := by decide +kernel
theorem dX6_turning_25 : decode cX6_turning 25 = .ok (.iaload, 1) := by decide +kernel
theorem dX6_turning_26 : decode cX6_turning 26 = .ok (.istore_n 2, 1) := by decide +kernel
theorem dX6_turning_27 : decode cX6_turning 27 = .ok (.aload_n 0, 1) := by decide +kernel
theorem dX6_turning_28 : decode cX6_turning 28 = .ok (.getfield 10, 3) := by decide +kernel
theorem dX6_turning_31 : decode cX6_turning 31 = .ok (.getfield 123, 3) := by decide +kernel
theorem dX6_turning_34 : decode cX6_turning 34 = .ok (.iload_n 1, 1) := by decide +kernel
theorem dX6_turning_35 : decode cX6_turning 35 = .ok (.iaload, 1) := by decide +kernel
theorem dX6_turning_36 : decode cX6_turning 36 = .ok (.istore_n 3, 1) := by decide +kernel
theorem dX6_turning_37 : decode cX6_turning 37 = .ok (.aload_n 0, 1) := by decide +kernel
theorem dX6_turning_38 : decode cX6_turning 38 = .ok (.getfield 10, 3) := by decide +kernel
theorem dX6_turning_41 : decode cX6_turning 41 = .ok (.getfield 62, 3) := by decide +kernel
theorem dX6_turning_44 : decode cX6_turning 44 = .ok (.iload_n 2, 1) := by decide +kernel
theorem dX6_turning_45 : decode cX6_turning 45 = .ok (.iload_n 3, 1) := by decide +kernel
theorem dX6_turning_46 : decode cX6_turning 46 = .ok (.invokevirtual 141, 3) := by decide +kernel
theorem dX6_turning_49 : decode cX6_turning 49 = .ok (.istore 4, 2) := by decide +kernel
theorem dX6_turning_51 : decode cX6_turning 51 = .ok (.iconst 0, 1) := by decide +kernel
theorem dX6_turning_52 : decode cX6_turning 52 = .ok (.istore 5, 2) := by decide +kernel
theorem dX6_turning_54 : decode cX6_turning 54 = .ok (.iconst 0, 1) := by decide +kernel
theorem dX6_turning_55 : decode cX6_turning 55 = .ok (.istore 6, 2) := by decide +kernel
theorem dX6_turning_57 : decode cX6_turning 57 = .ok (.iload 6, 2) := by decide +kernel
theorem dX6_turning_59 : decode cX6_turning 59 = .ok (.aload_n 0, 1) := by decide +kernel
theorem dX6_turning_60 : decode cX6_turning 60 = .ok (.getfield 10, 3) := by decide +kernel
theorem dX6_turning_63 : decode cX6_turning 63 = .ok (.getfield 62, 3) := by decide +kernel
theorem dX6_turning_66 : decode cX6_turning 66 = .ok (.getfield 65, 3) := by decide +kernel
theorem dX6_turning_69 : decode cX6_turning 69 = .ok (.if_icmp .ge 40, 3) := by decide +kernel
theorem dX6_turning_72 : decode cX6_turning 72 = .ok (.aload_n 0, 1) := by decide +kernel
theorem dX6_turning_73 : decode cX6_turning 73 = .ok (.getfield 10, 3) := by decide +kernel
theorem dX6_turning_76 : decode cX6_turning 76 = .ok (.getfield 62, 3) := by decide +kernel
theorem dX6_turning_79 : decode cX6_turning 79 = .ok (.iload_n 2, 1) := by decide +kernel
theorem dX6_turning_80 : decode cX6_turning 80 = .ok (.iconst 1, 1) := by decide +kernel
theorem dX6_turning_81 : decode cX6_turning 81 = .ok (.iload 6, 2) := by decide +kernel
theorem dX6_turning_83 : decode cX6_turning 83 = .ok (.ishl, 1) := by decide +kernel
theorem dX6_turning_84 : decode cX6_turning 84 = .ok (.ixor, 1) := by decide +kernel
theorem dX6_turning_85 : decode cX6_turning 85 = .ok (.iload_n 3, 1) := by decide +kernel
theorem dX6_turning_86 : decode cX6_turning 86 = .ok (.invokevirtual 141, 3) := by decide +kernel
theorem dX6_turning_89 : decode cX6_turning 89 = .ok (.iload 4, 2) := by decide +kernel
theorem dX6_turning_91 : decode cX6_turning 91 = .ok (.if_icmp .eq 12, 3) := by decide +kernel
theorem dX6_turning_94 : decode cX6_turning 94 = .ok (.iload 5, 2) := by decide +kernel
theorem dX6_turning_96 : decode cX6_turning 96 = .ok (.iconst 1, 1) := by decide +kernel
theorem dX6_turning_97 : decode cX6_turning 97 = .ok (.iload 6, 2) := by decide +kernel
theorem dX6_turning_99 : decode cX6_turning 99 = .ok (.ishl, 1) := by decide +kernel
theorem dX6_turning_100 : decode cX6_turning 100 = .ok (.ior, 1) := by decide +kernel
theorem dX6_turning_101 : decode cX6_turning 101 = .ok (.istore 5, 2) := by decide +kernel
theorem dX6_turning_103 : decode cX6_turning 103 = .ok (.iinc 6 1, 3) := by decide +kernel
theorem dX6_turning_106 : decode cX6_turning 106 = .ok (.goto (-49), 3) := by decide +kernel
theorem dX6_turning_109 : decode cX6_turning 109 = .ok (.iload 5, 2) := by decide +kernel
theorem dX6_turning_111 : decode cX6_turning 111 = .ok (.ireturn, 1) := by decide +kernel
theorem dX6_spends_0 : decode cX6_spends 0 = .ok (.aload_n 0, 1) := by decide +kernel
theorem dX6_spends_1 : decode cX6_spends 1 = .ok (.getfield 10, 3) := by decide +kernel
theorem dX6_spends_4 : decode cX6_spends 4 = .ok (.getfield 62, 3) := by decide +kernel
theorem dX6_spends_7 : decode cX6_spends 7 = .ok (.astore_n 3, 1) := by decide +kernel
theorem dX6_spends_8 : decode cX6_spends 8 = .ok (.aload_n 3, 1) := by decide +kernel
theorem dX6_spends_9 : decode cX6_spends 9 = .ok (.iload_n 1, 1) := by decide +kernel
theorem dX6_spends_10 : decode cX6_spends 10 = .ok (.invokevirtual 87, 3) := by decide +kernel
theorem dX6_spends_13 : decode cX6_spends 13 = .ok (.ifCond .eq 13, 3) := by decide +kernel
theorem dX6_spends_16 : decode cX6_spends 16 = .ok (.iload_n 2, 1) := by decide +kernel
theorem dX6_spends_17 : decode cX6_spends 17 = .ok (.ifCond .lt 9, 3) := by decide +kernel
theorem dX6_spends_20 : decode cX6_spends 20 = .ok (.iload_n 2, 1) := by decide +kernel
theorem dX6_spends_21 : decode cX6_spends 21 = .ok (.bipush 60, 2) := by decide +kernel
theorem dX6_spends_23 : decode cX6_spends 23 = .ok (.if_icmp .le 9, 3) := by decide +kernel
theorem dX6_spends_26 : decode cX6_spends 26 = .ok (.aload_n 0, 1) := by decide +kernel
theorem dX6_spends_27 : decode cX6_spends 27 = .ok (.iconst 1, 1) := by decide +kernel
theorem dX6_spends_28 : decode cX6_spends 28 = .ok (.invokevirtual 58, 3) := by decide +kernel
theorem dX6_spends_31 : decode cX6_spends 31 = .ok (.ireturn, 1) := by decide +kernel
theorem dX6_spends_32 : decode cX6_spends 32 = .ok (.aload_n 0, 1) := by decide +kernel
theorem dX6_spends_33 : decode cX6_spends 33 = .ok (.aload_n 0, 1) := by decide +kernel
theorem dX6_spends_34 : decode cX6_spends 34 = .ok (.getfield 10, 3) := by decide +kernel
theorem dX6_spends_37 : decode cX6_spends 37 = .ok (.getfield 144, 3) := by decide +kernel
theorem dX6_spends_40 : decode cX6_spends 40 = .ok (.iload_n 2, 1) := by decide +kernel
theorem dX6_spends_41 : decode cX6_spends 41 = .ok (.invokevirtual 207, 3) := by decide +kernel
theorem dX6_spends_44 : decode cX6_spends 44 = .ok (.aload_n 3, 1) := by decide +kernel
theorem dX6_spends_45 : decode cX6_spends 45 = .ok (.getfield 75, 3) := by decide +kernel
theorem dX6_spends_48 : decode cX6_spends 48 = .ok (.iload_n 1, 1) := by decide +kernel
theorem dX6_spends_49 : decode cX6_spends 49 = .ok (.iaload, 1) := by decide +kernel
theorem dX6_spends_50 : decode cX6_spends 50 = .ok (.aload_n 3, 1) := by decide +kernel
theorem dX6_spends_51 : decode cX6_spends 51 = .ok (.getfield 78, 3) := by decide +kernel
theorem dX6_spends_54 : decode cX6_spends 54 = .ok (.iload_n 1, 1) := by decide +kernel
theorem dX6_spends_55 : decode cX6_spends 55 = .ok (.iaload, 1) := by decide +kernel
theorem dX6_spends_56 : decode cX6_spends 56 = .ok (.iadd, 1) := by decide +kernel
theorem dX6_spends_57 : decode cX6_spends 57 = .ok (.istore 4, 2) := by decide +kernel
theorem dX6_spends_59 : decode cX6_spends 59 = .ok (.iload 4, 2) := by decide +kernel
theorem dX6_spends_61 : decode cX6_spends 61 = .ok (.istore 5, 2) := by decide +kernel
theorem dX6_spends_63 : decode cX6_spends 63 = .ok (.iload 5, 2) := by decide +kernel
theorem dX6_spends_65 : decode cX6_spends 65 = .ok (.ifCond .le 35, 3) := by decide +kernel
theorem dX6_spends_68 : decode cX6_spends 68 = .ok (.aload_n 0, 1) := by decide +kernel
theorem dX6_spends_69 : decode cX6_spends 69 = .ok (.iload_n 1, 1) := by decide +kernel
theorem dX6_spends_70 : decode cX6_spends 70 = .ok (.bipush 99, 2) := by decide +kernel
theorem dX6_spends_72 : decode cX6_spends 72 = .ok (.aload_n 3, 1) := by decide +kernel
theorem dX6_spends_73 : decode cX6_spends 73 = .ok (.getfield 81, 3) := by decide +kernel
theorem dX6_spends_76 : decode cX6_spends 76 = .ok (.iload_n 1, 1) := by decide +kernel
theorem dX6_spends_77 : decode cX6_spends 77 = .ok (.iaload, 1) := by decide +kernel
theorem dX6_spends_78 : decode cX6_spends 78 = .ok (.iload 5, 2) := by decide +kernel
theorem dX6_spends_80 : decode cX6_spends 80 = .ok (.iadd, 1) := by decide +kernel
theorem dX6_spends_81 : decode cX6_spends 81 = .ok (.invokestatic 229, 3) := by decide +kernel
theorem dX6_spends_84 : decode cX6_spends 84 = .ok (.iload_n 2, 1) := by decide +kernel
theorem dX6_spends_85 : decode cX6_spends 85 = .ok (.invokevirtual 211, 3) := by decide +kernel
theorem dX6_spends_88 : decode cX6_spends 88 = .ok (.ifCond .eq 6, 3) := by decide +kernel
theorem dX6_spends_91 : decode cX6_spends 91 = .ok (.iload 5, 2) := by decide +kernel
theorem dX6_spends_93 : decode cX6_spends 93 = .ok (.ireturn, 1) := by decide +kernel
theorem dX6_spends_94 : decode cX6_spends 94 = .ok (.iinc 5 (-1), 3) := by decide +kernel
theorem dX6_spends_97 : decode cX6_spends 97 = .ok (.goto (-34), 3) := by decide +kernel
theorem dX6_spends_100 : decode cX6_spends 100 = .ok (.iconst 0, 1) := by decide +kernel
theorem dX6_spends_101 : decode cX6_spends 101 = .ok (.ireturn, 1) := by decide +kernel
theorem dX6_plan_0 : decode cX6_plan 0 = .ok (.iload_n 1, 1) := by decide +kernel
theorem dX6_plan_1 : decode cX6_plan 1 = .ok (.invokestatic 199, 3) := by decide +kernel
theorem dX6_plan_4 : decode cX6_plan 4 = .ok (.istore 4, 2) := by decide +kernel
theorem dX6_plan_6 : decode cX6_plan 6 = .ok (.iload_n 1, 1) := by decide +kernel
theorem dX6_plan_7 : decode cX6_plan 7 = .ok (.iconst 1, 1) := by decide +kernel
theorem dX6_plan_8 : decode cX6_plan 8 = .ok (.if_icmp .lt 22, 3) := by decide +kernel
theorem dX6_plan_11 : decode cX6_plan 11 = .ok (.iload_n 1, 1) := by decide +kernel
theorem dX6_plan_12 : decode cX6_plan 12 = .ok (.iconst 1, 1) := by decide +kernel
theorem dX6_plan_13 : decode cX6_plan 13 = .ok (.aload_n 0, 1) := by decide +kernel
theorem dX6_plan_14 : decode cX6_plan 14 = .ok (.getfield 10, 3) := by decide +kernel
theorem dX6_plan_17 : decode cX6_plan 17 = .ok (.getfield 120, 3) := by decide +kernel
theorem dX6_plan_20 : decode cX6_plan 20 = .ok (.ishl, 1) := by decide +kernel
theorem dX6_plan_21 : decode cX6_plan 21 = .ok (.if_icmp .ge 9, 3) := by decide +kernel
theorem dX6_plan_24 : decode cX6_plan 24 = .ok (.iload 4, 2) := by decide +kernel
theorem dX6_plan_26 : decode cX6_plan 26 = .ok (.iconst 3, 1) := by decide +kernel
theorem dX6_plan_27 : decode cX6_plan 27 = .ok (.if_icmp .le 9, 3) := by decide +kernel
theorem dX6_plan_30 : decode cX6_plan 30 = .ok (.aload_n 0, 1) := by decide +kernel
theorem dX6_plan_31 : decode cX6_plan 31 = .ok (.iconst 1, 1) := by decide +kernel
theorem dX6_plan_32 : decode cX6_plan 32 = .ok (.invokevirtual 58, 3) := by decide +kernel
theorem dX6_plan_35 : decode cX6_plan 35 = .ok (.ireturn, 1) := by decide +kernel
theorem dX6_plan_36 : decode cX6_plan 36 = .ok (.iload_n 2, 1) := by decide +kernel
theorem dX6_plan_37 : decode cX6_plan 37 = .ok (.iconst 1, 1) := by decide +kernel
theorem dX6_plan_38 : decode cX6_plan 38 = .ok (.if_icmp .lt 20, 3) := by decide +kernel
theorem dX6_plan_41 : decode cX6_plan 41 = .ok (.iload_n 2, 1) := by decide +kernel
theorem dX6_plan_42 : decode cX6_plan 42 = .ok (.iconst 5, 1) := by decide +kernel
theorem dX6_plan_43 : decode cX6_plan 43 = .ok (.if_icmp .gt 15, 3) := by decide +kernel
theorem dX6_plan_46 : decode cX6_plan 46 = .ok (.iload_n 3, 1) := by decide +kernel
theorem dX6_plan_47 : decode cX6_plan 47 = .ok (.bipush (-2), 2) := by decide +kernel
theorem dX6_plan_49 : decode cX6_plan 49 = .ok (.if_icmp .lt 9, 3) := by decide +kernel
theorem dX6_plan_52 : decode cX6_plan 52 = .ok (.iload_n 3, 1) := by decide +kernel
theorem dX6_plan_53 : decode cX6_plan 53 = .ok (.iload 4, 2) := by decide +kernel
theorem dX6_plan_55 : decode cX6_plan 55 = .ok (.if_icmp .lt 9, 3) := by decide +kernel
theorem dX6_plan_58 : decode cX6_plan 58 = .ok (.aload_n 0, 1) := by decide +kernel
theorem dX6_plan_59 : decode cX6_plan 59 = .ok (.iconst 1, 1) := by decide +kernel
theorem dX6_plan_60 : decode cX6_plan 60 = .ok (.invokevirtual 58, 3) := by decide +kernel
theorem dX6_plan_63 : decode cX6_plan 63 = .ok (.ireturn, 1) := by decide +kernel
theorem dX6_plan_64 : decode cX6_plan 64 = .ok (.iload 4, 2) := by decide +kernel
theorem dX6_plan_66 : decode cX6_plan 66 = .ok (.iconst 1, 1) := by decide +kernel
theorem dX6_plan_67 : decode cX6_plan 67 = .ok (.if_icmp .ne 7, 3) := by decide +kernel
theorem dX6_plan_70 : decode cX6_plan 70 = .ok (.iload_n 2, 1) := by decide +kernel
theorem dX6_plan_71 : decode cX6_plan 71 = .ok (.goto 20, 3) := by decide +kernel
theorem dX6_plan_74 : decode cX6_plan 74 = .ok (.iload 4, 2) := by decide +kernel
theorem dX6_plan_76 : decode cX6_plan 76 = .ok (.iconst 2, 1) := by decide +kernel
theorem dX6_plan_77 : decode cX6_plan 77 = .ok (.if_icmp .ne 9, 3) := by decide +kernel
theorem dX6_plan_80 : decode cX6_plan 80 = .ok (.iload_n 2, 1) := by decide +kernel
theorem dX6_plan_81 : decode cX6_plan 81 = .ok (.iload_n 2, 1) := by decide +kernel
theorem dX6_plan_82 : decode cX6_plan 82 = .ok (.imul, 1) := by decide +kernel
theorem dX6_plan_83 : decode cX6_plan 83 = .ok (.goto 8, 3) := by decide +kernel
theorem dX6_plan_86 : decode cX6_plan 86 = .ok (.iload_n 2, 1) := by decide +kernel
theorem dX6_plan_87 : decode cX6_plan 87 = .ok (.iload_n 2, 1) := by decide +kernel
theorem dX6_plan_88 : decode cX6_plan 88 = .ok (.imul, 1) := by decide +kernel
theorem dX6_plan_89 : decode cX6_plan 89 = .ok (.iload_n 2, 1) := by decide +kernel
theorem dX6_plan_90 : decode cX6_plan 90 = .ok (.imul, 1) := by decide +kernel
theorem dX6_plan_91 : decode cX6_plan 91 = .ok (.istore 5, 2) := by decide +kernel
theorem dX6_plan_93 : decode cX6_plan 93 = .ok (.iconst 0, 1) := by decide +kernel
theorem dX6_plan_94 : decode cX6_plan 94 = .ok (.istore 6, 2) := by decide +kernel
theorem dX6_plan_96 : decode cX6_plan 96 = .ok (.iconst (-1), 1) := by decide +kernel
theorem dX6_plan_97 : decode cX6_plan 97 = .ok (.istore 7, 2) := by decide +kernel
theorem dX6_plan_99 : decode cX6_plan 99 = .ok (.iconst 0, 1) := by decide +kernel
theorem dX6_plan_100 : decode cX6_plan 100 = .ok (.istore 8, 2) := by decide +kernel
theorem dX6_plan_102 : decode cX6_plan 102 = .ok (.iload 8, 2) := by decide +kernel
theorem dX6_plan_104 : decode cX6_plan 104 = .ok (.iload 5, 2) := by decide +kernel
theorem dX6_plan_106 : decode cX6_plan 106 = .ok (.if_icmp .ge 34, 3) := by decide +kernel
theorem dX6_plan_109 : decode cX6_plan 109 = .ok (.aload_n 0, 1) := by decide +kernel
theorem dX6_plan_110 : decode cX6_plan 110 = .ok (.iload_n 1, 1) := by decide +kernel
theorem dX6_plan_111 : decode cX6_plan 111 = .ok (.iload_n 2, 1) := by decide +kernel
theorem dX6_plan_112 : decode cX6_plan 112 = .ok (.iload 8, 2) := by decide +kernel
theorem dX6_plan_114 : decode cX6_plan 114 = .ok (.invokevirtual 234, 3) := by decide +kernel
theorem dX6_plan_117 : decode cX6_plan 117 = .ok (.istore 9, 2) := by decide +kernel
theorem dX6_plan_119 : decode cX6_plan 119 = .ok (.iload 9, 2) := by decide +kernel
theorem dX6_plan_121 : decode cX6_plan 121 = .ok (.iload 7, 2) := by decide +kernel
theorem dX6_plan_123 : decode cX6_plan 123 = .ok (.if_icmp .le 11, 3) := by decide +kernel
theorem dX6_plan_126 : decode cX6_plan 126 = .ok (.iload 9, 2) := by decide +kernel
theorem dX6_plan_128 : decode cX6_plan 128 = .ok (.istore 7, 2) := by decide +kernel
theorem dX6_plan_130 : decode cX6_plan 130 = .ok (.iload 8, 2) := by decide +kernel
theorem dX6_plan_132 : decode cX6_plan 132 = .ok (.istore 6, 2) := by decide +kernel
theorem dX6_plan_134 : decode cX6_plan 134 = .ok (.iinc 8 1, 3) := by decide +kernel
theorem dX6_plan_137 : decode cX6_plan 137 = .ok (.goto (-35), 3) := by decide +kernel
theorem dX6_plan_140 : decode cX6_plan 140 = .ok (.iload_n 3, 1) := by decide +kernel
theorem dX6_plan_141 : decode cX6_plan 141 = .ok (.iconst (-1), 1) := by decide +kernel
theorem dX6_plan_142 : decode cX6_plan 142 = .ok (.if_icmp .ne 9, 3) := by decide +kernel
theorem dX6_plan_145 : decode cX6_plan 145 = .ok (.iload 7, 2) := by decide +kernel
theorem dX6_plan_147 : decode cX6_plan 147 = .ok (.bipush 10, 2) := by decide +kernel
theorem dX6_plan_149 : decode cX6_plan 149 = .ok (.idiv, 1) := by decide +kernel
theorem dX6_plan_150 : decode cX6_plan 150 = .ok (.ireturn, 1) := by decide +kernel
theorem dX6_plan_151 : decode cX6_plan 151 = .ok (.iload_n 3, 1) := by decide +kernel
theorem dX6_plan_152 : decode cX6_plan 152 = .ok (.bipush (-2), 2) := by decide +kernel
theorem dX6_plan_154 : decode cX6_plan 154 = .ok (.if_icmp .ne 11, 3) := by decide +kernel
theorem dX6_plan_157 : decode cX6_plan 157 = .ok (.iload 7, 2) := by decide +kernel
theorem dX6_plan_159 : decode cX6_plan 159 = .ok (.bipush 10, 2) := by decide +kernel
theorem dX6_plan_161 : decode cX6_plan 161 = .ok (.irem, 1) := by decide +kernel
theorem dX6_plan_162 : decode cX6_plan 162 = .ok (.goto 16, 3) := by decide +kernel
theorem dX6_plan_165 : decode cX6_plan 165 = .ok (.aload_n 0, 1) := by decide +kernel
theorem dX6_plan_166 : decode cX6_plan 166 = .ok (.iload 6, 2) := by decide +kernel
theorem dX6_plan_168 : decode cX6_plan 168 = .ok (.iload_n 2, 1) := by decide +kernel
theorem dX6_plan_169 : decode cX6_plan 169 = .ok (.iload 4, 2) := by decide +kernel
theorem dX6_plan_171 : decode cX6_plan 171 = .ok (.iconst 1, 1) := by decide +kernel
theorem dX6_plan_172 : decode cX6_plan 172 = .ok (.isub, 1) := by decide +kernel
theorem dX6_plan_173 : decode cX6_plan 173 = .ok (.iload_n 3, 1) := by decide +kernel
theorem dX6_plan_174 : decode cX6_plan 174 = .ok (.isub, 1) := by decide +kernel
theorem dX6_plan_175 : decode cX6_plan 175 = .ok (.invokevirtual 237, 3) := by decide +kernel
theorem dX6_plan_178 : decode cX6_plan 178 = .ok (.ireturn, 1) := by decide +kernel
theorem dX6_tailor_0 : decode cX6_tailor 0 = .ok (.iload_n 1, 1) := by decide +kernel
theorem dX6_tailor_1 : decode cX6_tailor 1 = .ok (.ifCond .lt 9, 3) := by decide +kernel
theorem dX6_tailor_4 : decode cX6_tailor 4 = .ok (.iload_n 1, 1) := by decide +kernel
theorem dX6_tailor_5 : decode cX6_tailor 5 = .ok (.bipush 60, 2) := by decide +kernel
theorem dX6_tailor_7 : decode cX6_tailor 7 = .ok (.if_icmp .le 9, 3) := by decide +kernel
theorem dX6_tailor_10 : decode cX6_tailor 10 = .ok (.aload_n 0, 1) := by decide +kernel
theorem dX6_tailor_11 : decode cX6_tailor 11 = .ok (.iconst 1, 1) := by decide +kernel
theorem dX6_tailor_12 : decode cX6_tailor 12 = .ok (.invokevirtual 58, 3) := by decide +kernel
theorem dX6_tailor_15 : decode cX6_tailor 15 = .ok (.ireturn, 1) := by decide +kernel
theorem dX6_tailor_16 : decode cX6_tailor 16 = .ok (.aload_n 0, 1) := by decide +kernel
theorem dX6_tailor_17 : decode cX6_tailor 17 = .ok (.aload_n 0, 1) := by decide +kernel
theorem dX6_tailor_18 : decode cX6_tailor 18 = .ok (.getfield 10, 3) := by decide +kernel
theorem dX6_tailor_21 : decode cX6_tailor 21 = .ok (.getfield 144, 3) := by decide +kernel
theorem dX6_tailor_24 : decode cX6_tailor 24 = .ok (.iload_n 1, 1) := by decide +kernel
theorem dX6_tailor_25 : decode cX6_tailor 25 = .ok (.invokevirtual 207, 3) := by decide +kernel
theorem dX6_tailor_28 : decode cX6_tailor 28 = .ok (.iconst 0, 1) := by decide +kernel
theorem dX6_tailor_29 : decode cX6_tailor 29 = .ok (.istore_n 2, 1) := by decide +kernel
theorem dX6_tailor_30 : decode cX6_tailor 30 = .ok (.iconst 0, 1) := by decide +kernel
theorem dX6_tailor_31 : decode cX6_tailor 31 = .ok (.istore_n 3, 1) := by decide +kernel
theorem dX6_tailor_32 : decode cX6_tailor 32 = .ok (.iload_n 3, 1) := by decide +kernel
theorem dX6_tailor_33 : decode cX6_tailor 33 = .ok (.aload_n 0, 1) := by decide +kernel
theorem dX6_tailor_34 : decode cX6_tailor 34 = .ok (.getfield 10, 3) := by decide +kernel
theorem dX6_tailor_37 : decode cX6_tailor 37 = .ok (.getfield 62, 3) := by decide +kernel
theorem dX6_tailor_40 : decode cX6_tailor 40 = .ok (.getfield 65, 3) := by decide +kernel
theorem dX6_tailor_43 : decode cX6_tailor 43 = .ok (.if_icmp .ge 48, 3) := by decide +kernel
theorem dX6_tailor_46 : decode cX6_tailor 46 = .ok (.aload_n 0, 1) := by decide +kernel
theorem dX6_tailor_47 : decode cX6_tailor 47 = .ok (.getfield 10, 3) := by decide +kernel
theorem dX6_tailor_50 : decode cX6_tailor 50 = .ok (.getfield 62, 3) := by decide +kernel
theorem dX6_tailor_53 : decode cX6_tailor 53 = .ok (.getfield 84, 3) := by decide +kernel
theorem dX6_tailor_56 : decode cX6_tailor 56 = .ok (.iload_n 3, 1) := by decide +kernel
theorem dX6_tailor_57 : decode cX6_tailor 57 = .ok (.iaload, 1) := by decide +kernel
theorem dX6_tailor_58 : decode cX6_tailor 58 = .ok (.ifCond .le 27, 3) := by decide +kernel
theorem dX6_tailor_61 : decode cX6_tailor 61 = .ok (.aload_n 0, 1) := by decide +kernel
theorem dX6_tailor_62 : decode cX6_tailor 62 = .ok (.iload_n 3, 1) := by decide +kernel
theorem dX6_tailor_63 : decode cX6_tailor 63 = .ok (.iload_n 1, 1) := by decide +kernel
theorem dX6_tailor_64 : decode cX6_tailor 64 = .ok (.invokevirtual 240, 3) := by decide +kernel
theorem dX6_tailor_67 : decode cX6_tailor 67 = .ok (.istore 4, 2) := by decide +kernel
theorem dX6_tailor_69 : decode cX6_tailor 69 = .ok (.iload 4, 2) := by decide +kernel
theorem dX6_tailor_71 : decode cX6_tailor 71 = .ok (.ifCond .ge 9, 3) := by decide +kernel
theorem dX6_tailor_74 : decode cX6_tailor 74 = .ok (.aload_n 0, 1) := by decide +kernel
theorem dX6_tailor_75 : decode cX6_tailor 75 = .ok (.iconst 2, 1) := by decide +kernel
theorem dX6_tailor_76 : decode cX6_tailor 76 = .ok (.invokevirtual 58, 3) := by decide +kernel
theorem dX6_tailor_79 : decode cX6_tailor 79 = .ok (.ireturn, 1) := by decide +kernel
theorem dX6_tailor_80 : decode cX6_tailor 80 = .ok (.iload_n 2, 1) := by decide +kernel
theorem dX6_tailor_81 : decode cX6_tailor 81 = .ok (.iload 4, 2) := by decide +kernel
theorem dX6_tailor_83 : decode cX6_tailor 83 = .ok (.iadd, 1) := by decide +kernel
theorem dX6_tailor_84 : decode cX6_tailor 84 = .ok (.istore_n 2, 1) := by decide +kernel
theorem dX6_tailor_85 : decode cX6_tailor 85 = .ok (.iinc 3 1, 3) := by decide +kernel
theorem dX6_tailor_88 : decode cX6_tailor 88 = .ok (.goto (-56), 3) := by decide +kernel
theorem dX6_tailor_91 : decode cX6_tailor 91 = .ok (.iload_n 2, 1) := by decide +kernel
theorem dX6_tailor_92 : decode cX6_tailor 92 = .ok (.ireturn, 1) := by decide +kernel
theorem dX6_voted_0 : decode cX6_voted 0 = .ok (.aload_n 0, 1) := by decide +kernel
theorem dX6_voted_1 : decode cX6_voted 1 = .ok (.iload_n 1, 1) := by decide +kernel
theorem dX6_voted_2 : decode cX6_voted 2 = .ok (.invokevirtual 243, 3) := by decide +kernel
theorem dX6_voted_5 : decode cX6_voted 5 = .ok (.ifCond .eq 12, 3) := by decide +kernel
theorem dX6_voted_8 : decode cX6_voted 8 = .ok (.iload_n 2, 1) := by decide +kernel
theorem dX6_voted_9 : decode cX6_voted 9 = .ok (.ifCond .lt 8, 3) := by decide +kernel
theorem dX6_voted_12 : decode cX6_voted 12 = .ok (.iload_n 2, 1) := by decide +kernel
theorem dX6_voted_13 : decode cX6_voted 13 = .ok (.iconst 1, 1) := by decide +kernel
theorem dX6_voted_14 : decode cX6_voted 14 = .ok (.if_icmp .le 9, 3) := by decide +kernel
theorem dX6_voted_17 : decode cX6_voted 17 = .ok (.aload_n 0, 1) := by decide +kernel
theorem dX6_voted_18 : decode cX6_voted 18 = .ok (.iconst 1, 1) := by decide +kernel
theorem dX6_voted_19 : decode cX6_voted 19 = .ok (.invokevirtual 58, 3) := by decide +kernel
theorem dX6_voted_22 : decode cX6_voted 22 = .ok (.ireturn, 1) := by decide +kernel
theorem dX6_voted_23 : decode cX6_voted 23 = .ok (.aload_n 0, 1) := by decide +kernel
theorem dX6_voted_24 : decode cX6_voted 24 = .ok (.getfield 42, 3) := by decide +kernel
theorem dX6_voted_27 : decode cX6_voted 27 = .ok (.iload_n 1, 1) := by decide +kernel
theorem dX6_voted_28 : decode cX6_voted 28 = .ok (.aaload, 1) := by decide +kernel
theorem dX6_voted_29 : decode cX6_voted 29 = .ok (.astore_n 3, 1) := by decide +kernel
theorem dX6_voted_30 : decode cX6_voted 30 = .ok (.aload_n 3, 1) := by decide +kernel
theorem dX6_voted_31 : decode cX6_voted 31 = .ok (.getfield 246, 3) := by decide +kernel
theorem dX6_voted_34 : decode cX6_voted 34 = .ok (.ifCond .eq 11, 3) := by decide +kernel
theorem dX6_voted_37 : decode cX6_voted 37 = .ok (.aload_n 3, 1) := by decide +kernel
theorem dX6_voted_38 : decode cX6_voted 38 = .ok (.getfield 249, 3) := by decide +kernel
theorem dX6_voted_41 : decode cX6_voted 41 = .ok (.iconst 2, 1) := by decide +kernel
theorem dX6_voted_42 : decode cX6_voted 42 = .ok (.if_icmp .eq 9, 3) := by decide +kernel
theorem dX6_voted_45 : decode cX6_voted 45 = .ok (.aload_n 0, 1) := by decide +kernel
theorem dX6_voted_46 : decode cX6_voted 46 = .ok (.iconst 2, 1) := by decide +kernel
theorem dX6_voted_47 : decode cX6_voted 47 = .ok (.invokevirtual 58, 3) := by decide +kernel
theorem dX6_voted_50 : decode cX6_voted 50 = .ok (.ireturn, 1) := by decide +kernel
theorem dX6_voted_51 : decode cX6_voted 51 = .ok (.iconst 0, 1) := by decide +kernel
theorem dX6_voted_52 : decode cX6_voted 52 = .ok (.istore 4, 2) := by decide +kernel
theorem dX6_voted_54 : decode cX6_voted 54 = .ok (.iconst (-1), 1) := by decide +kernel
theorem dX6_voted_55 : decode cX6_voted 55 = .ok (.istore 5, 2) := by decide +kernel
theorem dX6_voted_57 : decode cX6_voted 57 = .ok (.iconst 0, 1) := by decide +kernel
theorem dX6_voted_58 : decode cX6_voted 58 = .ok (.istore 6, 2) := by decide +kernel
theorem dX6_voted_60 : decode cX6_voted 60 = .ok (.iload 6, 2) := by decide +kernel
theorem dX6_voted_62 : decode cX6_voted 62 = .ok (.iconst 1, 1) := by decide +kernel
theorem dX6_voted_63 : decode cX6_voted 63 = .ok (.aload_n 0, 1) := by decide +kernel
theorem dX6_voted_64 : decode cX6_voted 64 = .ok (.getfield 10, 3) := by decide +kernel
theorem dX6_voted_67 : decode cX6_voted 67 = .ok (.getfield 62, 3) := by decide +kernel
theorem dX6_voted_70 : decode cX6_voted 70 = .ok (.getfield 65, 3) := by decide +kernel
theorem dX6_voted_73 : decode cX6_voted 73 = .ok (.ishl, 1) := by decide +kernel
theorem dX6_voted_74 : decode cX6_voted 74 = .ok (.if_icmp .ge 68, 3) := by decide +kernel
theorem dX6_voted_77 : decode cX6_voted 77 = .ok (.aload_n 0, 1) := by decide +kernel
theorem dX6_voted_78 : decode cX6_voted 78 = .ok (.getfield 10, 3) := by decide +kernel
theorem dX6_voted_81 : decode cX6_voted 81 = .ok (.getfield 62, 3) := by decide +kernel
theorem dX6_voted_84 : decode cX6_voted 84 = .ok (.iload 6, 2) := by decide +kernel
theorem dX6_voted_86 : decode cX6_voted 86 = .ok (.invokevirtual 250, 3) := by decide +kernel
theorem dX6_voted_89 : decode cX6_voted 89 = .ok (.aload_n 3, 1) := by decide +kernel
theorem dX6_voted_90 : decode cX6_voted 90 = .ok (.getfield 253, 3) := by decide +kernel
theorem dX6_voted_93 : decode cX6_voted 93 = .ok (.iconst 0, 1) := by decide +kernel
theorem dX6_voted_94 : decode cX6_voted 94 = .ok (.iaload, 1) := by decide +kernel
theorem dX6_voted_95 : decode cX6_voted 95 = .ok (.if_icmp .ne 41, 3) := by decide +kernel
theorem dX6_voted_98 : decode cX6_voted 98 = .ok (.aload_n 0, 1) := by decide +kernel
theorem dX6_voted_99 : decode cX6_voted 99 = .ok (.getfield 10, 3) := by decide +kernel
theorem dX6_voted_102 : decode cX6_voted 102 = .ok (.getfield 62, 3) := by decide +kernel
theorem dX6_voted_105 : decode cX6_voted 105 = .ok (.iload 6, 2) := by decide +kernel
theorem dX6_voted_107 : decode cX6_voted 107 = .ok (.invokevirtual 256, 3) := by decide +kernel
theorem dX6_voted_110 : decode cX6_voted 110 = .ok (.aload_n 3, 1) := by decide +kernel
theorem dX6_voted_111 : decode cX6_voted 111 = .ok (.getfield 253, 3) := by decide +kernel
theorem dX6_voted_114 : decode cX6_voted 114 = .ok (.iconst 1, 1) := by decide +kernel
theorem dX6_voted_115 : decode cX6_voted 115 = .ok (.iaload, 1) := by decide +kernel
theorem dX6_voted_116 : decode cX6_voted 116 = .ok (.if_icmp .ne 20, 3) := by decide +kernel
theorem dX6_voted_119 : decode cX6_voted 119 = .ok (.iinc 4 1, 3) := by decide +kernel
theorem dX6_voted_122 : decode cX6_voted 122 = .ok (.iload 5, 2) := by decide +kernel
theorem dX6_voted_124 : decode cX6_voted 124 = .ok (.ifCond .ge 8, 3) := by decide +kernel
theorem dX6_voted_127 : decode cX6_voted 127 = .ok (.iload 6, 2) := by decide +kernel
theorem dX6_voted_129 : decode cX6_voted 129 = .ok (.goto 5, 3) := by decide +kernel
theorem dX6_voted_132 : decode cX6_voted 132 = .ok (.iload 5, 2) := by decide +kernel
theorem dX6_voted_134 : decode cX6_voted 134 = .ok (.istore 5, 2) := by decide +kernel
theorem dX6_voted_136 : decode cX6_voted 136 = .ok (.iinc 6 1, 3) := by decide +kernel
theorem dX6_voted_139 : decode cX6_voted 139 = .ok (.goto (-79), 3) := by decide +kernel
theorem dX6_voted_142 : decode cX6_voted 142 = .ok (.iload_n 2, 1) := by decide +kernel
theorem dX6_voted_143 : decode cX6_voted 143 = .ok (.ifCond .ne 6, 3) := by decide +kernel
theorem dX6_voted_146 : decode cX6_voted 146 = .ok (.iload 4, 2) := by decide +kernel
theorem dX6_voted_148 : decode cX6_voted 148 = .ok (.ireturn, 1) := by decide +kernel
theorem dX6_voted_149 : decode cX6_voted 149 = .ok (.iload 5, 2) := by decide +kernel
theorem dX6_voted_151 : decode cX6_voted 151 = .ok (.ifCond .ge 11, 3) := by decide +kernel
theorem dX6_voted_154 : decode cX6_voted 154 = .ok (.aload_n 0, 1) := by decide +kernel
theorem dX6_voted_155 : decode cX6_voted 155 = .ok (.iconst 2, 1) := by decide +kernel
theorem dX6_voted_156 : decode cX6_voted 156 = .ok (.invokevirtual 58, 3) := by decide +kernel
theorem dX6_voted_159 : decode cX6_voted 159 = .ok (.goto 5, 3) := by decide +kernel
theorem dX6_voted_162 : decode cX6_voted 162 = .ok (.iload 5, 2) := by decide +kernel
theorem dX6_voted_164 : decode cX6_voted 164 = .ok (.ireturn, 1) := by decide +kernel
theorem dX6_harder_0 : decode cX6_harder 0 = .ok (.iload_n 1, 1) := by decide +kernel
theorem dX6_harder_1 : decode cX6_harder 1 = .ok (.ifCond .lt 9, 3) := by decide +kernel
theorem dX6_harder_4 : decode cX6_harder 4 = .ok (.iload_n 1, 1) := by decide +kernel
theorem dX6_harder_5 : decode cX6_harder 5 = .ok (.bipush 60, 2) := by decide +kernel
theorem dX6_harder_7 : decode cX6_harder 7 = .ok (.if_icmp .le 9, 3) := by decide +kernel
theorem dX6_harder_10 : decode cX6_harder 10 = .ok (.aload_n 0, 1) := by decide +kernel
theorem dX6_harder_11 : decode cX6_harder 11 = .ok (.iconst 1, 1) := by decide +kernel
theorem dX6_harder_12 : decode cX6_harder 12 = .ok (.invokevirtual 58, 3) := by decide +kernel
theorem dX6_harder_15 : decode cX6_harder 15 = .ok (.ireturn, 1) := by decide +kernel
theorem dX6_harder_16 : decode cX6_harder 16 = .ok (.aload_n 0, 1) := by decide +kernel
theorem dX6_harder_17 : decode cX6_harder 17 = .ok (.getfield 10, 3) := by decide +kernel
theorem dX6_harder_20 : decode cX6_harder 20 = .ok (.getfield 62, 3) := by decide +kernel
theorem dX6_harder_23 : decode cX6_harder 23 = .ok (.astore_n 2, 1) := by decide +kernel
theorem dX6_harder_24 : decode cX6_harder 24 = .ok (.iconst 0, 1) := by decide +kernel
theorem dX6_harder_25 : decode cX6_harder 25 = .ok (.istore_n 3, 1) := by decide +kernel
theorem dX6_harder_26 : decode cX6_harder 26 = .ok (.iload_n 3, 1) := by decide +kernel
theorem dX6_harder_27 : decode cX6_harder 27 = .ok (.bipush 9, 2) := by decide +kernel
theorem dX6_harder_29 : decode cX6_harder 29 = .ok (.if_icmp .gt 62, 3) := by decide +kernel
theorem dX6_harder_32 : decode cX6_harder 32 = .ok (.aload_n 0, 1) := by decide +kernel
theorem dX6_harder_33 : decode cX6_harder 33 = .ok (.iload_n 3, 1) := by decide +kernel
theorem dX6_harder_34 : decode cX6_harder 34 = .ok (.iload_n 1, 1) := by decide +kernel
theorem dX6_harder_35 : decode cX6_harder 35 = .ok (.invokevirtual 207, 3) := by decide +kernel
theorem dX6_harder_38 : decode cX6_harder 38 = .ok (.iconst 0, 1) := by decide +kernel
theorem dX6_harder_39 : decode cX6_harder 39 = .ok (.istore 4, 2) := by decide +kernel
theorem dX6_harder_41 : decode cX6_harder 41 = .ok (.iload 4, 2) := by decide +kernel
theorem dX6_harder_43 : decode cX6_harder 43 = .ok (.aload_n 2, 1) := by decide +kernel
theorem dX6_harder_44 : decode cX6_harder 44 = .ok (.getfield 65, 3) := by decide +kernel
theorem dX6_harder_47 : decode cX6_harder 47 = .ok (.if_icmp .ge 38, 3) := by decide +kernel
theorem dX6_harder_50 : decode cX6_harder 50 = .ok (.aload_n 2, 1) := by decide +kernel
theorem dX6_harder_51 : decode cX6_harder 51 = .ok (.getfield 84, 3) := by decide +kernel
theorem dX6_harder_54 : decode cX6_harder 54 = .ok (.iload 4, 2) := by decide +kernel
theorem dX6_harder_56 : decode cX6_harder 56 = .ok (.iaload, 1) := by decide +kernel
theorem dX6_harder_57 : decode cX6_harder 57 = .ok (.ifCond .le 22, 3) := by decide +kernel
theorem dX6_harder_60 : decode cX6_harder 60 = .ok (.aload_n 0, 1) := by decide +kernel
theorem dX6_harder_61 : decode cX6_harder 61 = .ok (.iload 4, 2) := by decide +kernel
theorem dX6_harder_63 : decode cX6_harder 63 = .ok (.aload_n 2, 1) := by decide +kernel
theorem dX6_harder_64 : decode cX6_harder 64 = .ok (.getfield 81, 3) := by decide +kernel
theorem dX6_harder_67 : decode cX6_harder 67 = .ok (.iload 4, 2) := by decide +kernel
theorem dX6_harder_69 : decode cX6_harder 69 = .ok (.iaload, 1) := by decide +kernel
theorem dX6_harder_70 : decode cX6_harder 70 = .ok (.iload_n 1, 1) := by decide +kernel
theorem dX6_harder_71 : decode cX6_harder 71 = .ok (.invokevirtual 211, 3) := by decide +kernel
theorem dX6_harder_74 : decode cX6_harder 74 = .ok (.ifCond .ne 5, 3) := by decide +kernel
theorem dX6_harder_77 : decode cX6_harder 77 = .ok (.iload_n 3, 1) := by decide +kernel
theorem dX6_harder_78 : decode cX6_harder 78 = .ok (.ireturn, 1) := by decide +kernel
theorem dX6_harder_79 : decode cX6_harder 79 = .ok (.iinc 4 1, 3) := by decide +kernel
theorem dX6_harder_82 : decode cX6_harder 82 = .ok (.goto (-41), 3) := by decide +kernel
theorem dX6_harder_85 : decode cX6_harder 85 = .ok (.iinc 3 1, 3) := by decide +kernel
theorem dX6_harder_88 : decode cX6_harder 88 = .ok (.goto (-62), 3) := by decide +kernel
theorem dX6_harder_91 : decode cX6_harder 91 = .ok (.aload_n 0, 1) := by decide +kernel
theorem dX6_harder_92 : decode cX6_harder 92 = .ok (.iconst 2, 1) := by decide +kernel
theorem dX6_harder_93 : decode cX6_harder 93 = .ok (.invokevirtual 58, 3) := by decide +kernel
theorem dX6_harder_96 : decode cX6_harder 96 = .ok (.ireturn, 1) := by decide +kernel
theorem dX6_seed_0 : decode cX6_seed 0 = .ok (.aload_n 0, 1) := by decide +kernel
theorem dX6_seed_1 : decode cX6_seed 1 = .ok (.getfield 10, 3) := by decide +kernel
theorem dX6_seed_4 : decode cX6_seed 4 = .ok (.getfield 259, 3) := by decide +kernel
theorem dX6_seed_7 : decode cX6_seed 7 = .ok (.istore_n 2, 1) := by decide +kernel
theorem dX6_seed_8 : decode cX6_seed 8 = .ok (.aload_n 0, 1) := by decide +kernel
theorem dX6_seed_9 : decode cX6_seed 9 = .ok (.getfield 10, 3) := by decide +kernel
theorem dX6_seed_12 : decode cX6_seed 12 = .ok (.iload_n 1, 1) := by decide +kernel
theorem dX6_seed_13 : decode cX6_seed 13 = .ok (.putfield 259, 3) := by decide +kernel
theorem dX6_seed_16 : decode cX6_seed 16 = .ok (.iload_n 2, 1) := by decide +kernel
theorem dX6_seed_17 : decode cX6_seed 17 = .ok (.ireturn, 1) := by decide +kernel
theorem dX6_voice_0 : decode cX6_voice 0 = .ok (.aload_n 0, 1) := by decide +kernel
theorem dX6_voice_1 : decode cX6_voice 1 = .ok (.getfield 10, 3) := by decide +kernel
theorem dX6_voice_4 : decode cX6_voice 4 = .ok (.getfield 62, 3) := by decide +kernel
theorem dX6_voice_7 : decode cX6_voice 7 = .ok (.astore 4, 2) := by decide +kernel
theorem dX6_voice_9 : decode cX6_voice 9 = .ok (.aload 4, 2) := by decide +kernel
theorem dX6_voice_11 : decode cX6_voice 11 = .ok (.iload_n 1, 1) := by decide +kernel
theorem dX6_voice_12 : decode cX6_voice 12 = .ok (.invokevirtual 87, 3) := by decide +kernel
theorem dX6_voice_15 : decode cX6_voice 15 = .ok (.ifCond .eq 12, 3) := by decide +kernel
theorem dX6_voice_18 : decode cX6_voice 18 = .ok (.iload_n 2, 1) := by decide +kernel
theorem dX6_voice_19 : decode cX6_voice 19 = .ok (.ifCond .lt 8, 3) := by decide +kernel
theorem dX6_voice_22 : decode cX6_voice 22 = .ok (.iload_n 2, 1) := by decide +kernel
theorem dX6_voice_23 : decode cX6_voice 23 = .ok (.iconst 3, 1) := by decide +kernel
theorem dX6_voice_24 : decode cX6_voice 24 = .ok (.if_icmp .le 9, 3) := by decide +kernel
theorem dX6_voice_27 : decode cX6_voice 27 = .ok (.aload_n 0, 1) := by decide +kernel
theorem dX6_voice_28 : decode cX6_voice 28 = .ok (.iconst 1, 1) := by decide +kernel
theorem dX6_voice_29 : decode cX6_voice 29 = .ok (.invokevirtual 58, 3) := by decide +kernel
theorem dX6_voice_32 : decode cX6_voice 32 = .ok (.ireturn, 1) := by decide +kernel
theorem dX6_voice_33 : decode cX6_voice 33 = .ok (.aload_n 0, 1) := by decide +kernel
theorem dX6_voice_34 : decode cX6_voice 34 = .ok (.getfield 36, 3) := by decide +kernel
theorem dX6_voice_37 : decode cX6_voice 37 = .ok (.aload 4, 2) := by decide +kernel
theorem dX6_voice_39 : decode cX6_voice 39 = .ok (.getfield 69, 3) := by decide +kernel
theorem dX6_voice_42 : decode cX6_voice 42 = .ok (.iload_n 1, 1) := by decide +kernel
theorem dX6_voice_43 : decode cX6_voice 43 = .ok (.iaload, 1) := by decide +kernel
theorem dX6_voice_44 : decode cX6_voice 44 = .ok (.aload 4, 2) := by decide +kernel
theorem dX6_voice_46 : decode cX6_voice 46 = .ok (.getfield 72, 3) := by decide +kernel
theorem dX6_voice_49 : decode cX6_voice 49 = .ok (.iload_n 1, 1) := by decide +kernel
theorem dX6_voice_50 : decode cX6_voice 50 = .ok (.iaload, 1) := by decide +kernel
theorem dX6_voice_51 : decode cX6_voice 51 = .ok (.iload_n 1, 1) := by decide +kernel
theorem dX6_voice_52 : decode cX6_voice 52 = .ok (.iload_n 2, 1) := by decide +kernel
theorem dX6_voice_53 : decode cX6_voice 53 = .ok (.iload_n 3, 1) := by decide +kernel
theorem dX6_voice_54 : decode cX6_voice 54 = .ok (.invokevirtual 262, 3) := by decide +kernel
theorem dX6_voice_57 : decode cX6_voice 57 = .ok (.ireturn, 1) := by decide +kernel
theorem dX6_trace_0 : decode cX6_trace 0 = .ok (.iload_n 1, 1) := by decide +kernel
theorem dX6_trace_1 : decode cX6_trace 1 = .ok (.ifCond .lt 14, 3) := by decide +kernel
theorem dX6_trace_4 : decode cX6_trace 4 = .ok (.iload_n 1, 1) := by decide +kernel
theorem dX6_trace_5 : decode cX6_trace 5 = .ok (.aload_n 0, 1) := by decide +kernel
theorem dX6_trace_6 : decode cX6_trace 6 = .ok (.getfield 36, 3) := by decide +kernel
theorem dX6_trace_9 : decode cX6_trace 9 = .ok (.getfield 266, 3) := by decide +kernel
theorem dX6_trace_12 : decode cX6_trace 12 = .ok (.if_icmp .lt 9, 3) := by decide +kernel
theorem dX6_trace_15 : decode cX6_trace 15 = .ok (.aload_n 0, 1) := by decide +kernel
theorem dX6_trace_16 : decode cX6_trace 16 = .ok (.iconst 2, 1) := by decide +kernel
theorem dX6_trace_17 : decode cX6_trace 17 = .ok (.invokevirtual 58, 3) := by decide +kernel
theorem dX6_trace_20 : decode cX6_trace 20 = .ok (.ireturn, 1) := by decide +kernel
theorem dX6_trace_21 : decode cX6_trace 21 = .ok (.aload_n 0, 1) := by decide +kernel
theorem dX6_trace_22 : decode cX6_trace 22 = .ok (.getfield 36, 3) := by decide +kernel
theorem dX6_trace_25 : decode cX6_trace 25 = .ok (.getfield 269, 3) := by decide +kernel
theorem dX6_trace_28 : decode cX6_trace 28 = .ok (.iload_n 1, 1) := by decide +kernel
theorem dX6_trace_29 : decode cX6_trace 29 = .ok (.iaload, 1) := by decide +kernel
theorem dX6_trace_30 : decode cX6_trace 30 = .ok (.ireturn, 1) := by decide +kernel
theorem dX6_sheet_0 : decode cX6_sheet 0 = .ok (.aload_n 0, 1) := by decide +kernel
theorem dX6_sheet_1 : decode cX6_sheet 1 = .ok (.iload_n 1, 1) := by decide +kernel
theorem dX6_sheet_2 : decode cX6_sheet 2 = .ok (.invokevirtual 243, 3) := by decide +kernel
theorem dX6_sheet_5 : decode cX6_sheet 5 = .ok (.ifCond .eq 11, 3) := by decide +kernel
theorem dX6_sheet_8 : decode cX6_sheet 8 = .ok (.aload_n 0, 1) := by decide +kernel
theorem dX6_sheet_9 : decode cX6_sheet 9 = .ok (.iload_n 2, 1) := by decide +kernel
theorem dX6_sheet_10 : decode cX6_sheet 10 = .ok (.invokevirtual 272, 3) := by decide +kernel
theorem dX6_sheet_13 : decode cX6_sheet 13 = .ok (.ifCond .ne 9, 3) := by decide +kernel
theorem dX6_sheet_16 : decode cX6_sheet 16 = .ok (.aload_n 0, 1) := by decide +kernel
theorem dX6_sheet_17 : decode cX6_sheet 17 = .ok (.iconst 1, 1) := by decide +kernel
theorem dX6_sheet_18 : decode cX6_sheet 18 = .ok (.invokevirtual 58, 3) := by decide +kernel
theorem dX6_sheet_21 : decode cX6_sheet 21 = .ok (.ireturn, 1) := by decide +kernel
theorem dX6_sheet_22 : decode cX6_sheet 22 = .ok (.iload_n 2, 1) := by decide +kernel
theorem dX6_sheet_23 : decode cX6_sheet 23 = .ok (.ifCond .eq 13, 3) := by decide +kernel
theorem dX6_sheet_26 : decode cX6_sheet 26 = .ok (.iload_n 3, 1) := by decide +kernel
theorem dX6_sheet_27 : decode cX6_sheet 27 = .ok (.ifCond .ge 9, 3) := by decide +kernel
theorem dX6_sheet_30 : decode cX6_sheet 30 = .ok (.aload_n 0, 1) := by decide +kernel
theorem dX6_sheet_31 : decode cX6_sheet 31 = .ok (.iconst 3, 1) := by decide +kernel
theorem dX6_sheet_32 : decode cX6_sheet 32 = .ok (.invokevirtual 58, 3) := by decide +kernel
theorem dX6_sheet_35 : decode cX6_sheet 35 = .ok (.ireturn, 1) := by decide +kernel
theorem dX6_sheet_36 : decode cX6_sheet 36 = .ok (.iload_n 2, 1) := by decide +kernel
theorem dX6_sheet_37 : decode cX6_sheet 37 = .ok (.ifCond .eq 15, 3) := by decide +kernel
theorem dX6_sheet_40 : decode cX6_sheet 40 = .ok (.iload_n 3, 1) := by decide +kernel
theorem dX6_sheet_41 : decode cX6_sheet 41 = .ok (.bipush 40, 2) := by decide +kernel
theorem dX6_sheet_43 : decode cX6_sheet 43 = .ok (.if_icmp .le 9, 3) := by decide +kernel
theorem dX6_sheet_46 : decode cX6_sheet 46 = .ok (.aload_n 0, 1) := by decide +kernel
theorem dX6_sheet_47 : decode cX6_sheet 47 = .ok (.iconst 1, 1) := by decide +kernel
theorem dX6_sheet_48 : decode cX6_sheet 48 = .ok (.invokevirtual 58, 3) := by decide +kernel
theorem dX6_sheet_51 : decode cX6_sheet 51 = .ok (.ireturn, 1) := by decide +kernel
theorem dX6_sheet_52 : decode cX6_sheet 52 = .ok (.aload_n 0, 1) := by decide +kernel
theorem dX6_sheet_53 : decode cX6_sheet 53 = .ok (.getfield 42, 3) := by decide +kernel
theorem dX6_sheet_56 : decode cX6_sheet 56 = .ok (.iload_n 1, 1) := by decide +kernel
theorem dX6_sheet_57 : decode cX6_sheet 57 = .ok (.aaload, 1) := by decide +kernel
theorem dX6_sheet_58 : decode cX6_sheet 58 = .ok (.iload_n 2, 1) := by decide +kernel
theorem dX6_sheet_59 : decode cX6_sheet 59 = .ok (.iload_n 2, 1) := by decide +kernel
theorem dX6_sheet_60 : decode cX6_sheet 60 = .ok (.ifCond .ne 7, 3) := by decide +kernel
theorem dX6_sheet_63 : decode cX6_sheet 63 = .ok (.iconst 0, 1) := by decide +kernel
theorem dX6_sheet_64 : decode cX6_sheet 64 = .ok (.goto 4, 3) := by decide +kernel
theorem dX6_sheet_67 : decode cX6_sheet 67 = .ok (.iload_n 3, 1) := by decide +kernel
theorem dX6_sheet_68 : decode cX6_sheet 68 = .ok (.invokevirtual 275, 3) := by decide +kernel
theorem dX6_sheet_71 : decode cX6_sheet 71 = .ok (.iconst 1, 1) := by decide +kernel
theorem dX6_sheet_72 : decode cX6_sheet 72 = .ok (.ireturn, 1) := by decide +kernel
theorem dX6_put_0 : decode cX6_put 0 = .ok (.aload_n 0, 1) := by decide +kernel
theorem dX6_put_1 : decode cX6_put 1 = .ok (.iload_n 1, 1) := by decide +kernel
theorem dX6_put_2 : decode cX6_put 2 = .ok (.invokevirtual 243, 3) := by decide +kernel
theorem dX6_put_5 : decode cX6_put 5 = .ok (.ifCond .ne 9, 3) := by decide +kernel
theorem dX6_put_8 : decode cX6_put 8 = .ok (.aload_n 0, 1) := by decide +kernel
theorem dX6_put_9 : decode cX6_put 9 = .ok (.iconst 1, 1) := by decide +kernel
theorem dX6_put_10 : decode cX6_put 10 = .ok (.invokevirtual 58, 3) := by decide +kernel
theorem dX6_put_13 : decode cX6_put 13 = .ok (.ireturn, 1) := by decide +kernel
theorem dX6_put_14 : decode cX6_put 14 = .ok (.aload_n 0, 1) := by decide +kernel
theorem dX6_put_15 : decode cX6_put 15 = .ok (.getfield 42, 3) := by decide +kernel
theorem dX6_put_18 : decode cX6_put 18 = .ok (.iload_n 1, 1) := by decide +kernel
theorem dX6_put_19 : decode cX6_put 19 = .ok (.aaload, 1) := by decide +kernel
theorem dX6_put_20 : decode cX6_put 20 = .ok (.astore 4, 2) := by decide +kernel
theorem dX6_put_22 : decode cX6_put 22 = .ok (.aload 4, 2) := by decide +kernel
theorem dX6_put_24 : decode cX6_put 24 = .ok (.getfield 246, 3) := by decide +kernel
theorem dX6_put_27 : decode cX6_put 27 = .ok (.ifCond .ne 9, 3) := by decide +kernel
theorem dX6_put_30 : decode cX6_put 30 = .ok (.aload_n 0, 1) := by decide +kernel
theorem dX6_put_31 : decode cX6_put 31 = .ok (.iconst 2, 1) := by decide +kernel
theorem dX6_put_32 : decode cX6_put 32 = .ok (.invokevirtual 58, 3) := by decide +kernel
theorem dX6_put_35 : decode cX6_put 35 = .ok (.ireturn, 1) := by decide +kernel
theorem dX6_put_36 : decode cX6_put 36 = .ok (.iload_n 2, 1) := by decide +kernel
theorem dX6_put_37 : decode cX6_put 37 = .ok (.ifCond .lt 12, 3) := by decide +kernel
theorem dX6_put_40 : decode cX6_put 40 = .ok (.iload_n 2, 1) := by decide +kernel
theorem dX6_put_41 : decode cX6_put 41 = .ok (.aload 4, 2) := by decide +kernel
theorem dX6_put_43 : decode cX6_put 43 = .ok (.getfield 249, 3) := by decide +kernel
theorem dX6_put_46 : decode cX6_put 46 = .ok (.if_icmp .lt 9, 3) := by decide +kernel
theorem dX6_put_49 : decode cX6_put 49 = .ok (.aload_n 0, 1) := by decide +kernel
theorem dX6_put_50 : decode cX6_put 50 = .ok (.iconst 1, 1) := by decide +kernel
theorem dX6_put_51 : decode cX6_put 51 = .ok (.invokevirtual 58, 3) := by decide +kernel
theorem dX6_put_54 : decode cX6_put 54 = .ok (.ireturn, 1) := by decide +kernel
theorem dX6_put_55 : decode cX6_put 55 = .ok (.aload 4, 2) := by decide +kernel
theorem dX6_put_57 : decode cX6_put 57 = .ok (.iload_n 2, 1) := by decide +kernel
theorem dX6_put_58 : decode cX6_put 58 = .ok (.iload_n 3, 1) := by decide +kernel
theorem dX6_put_59 : decode cX6_put 59 = .ok (.invokevirtual 278, 3) := by decide +kernel
theorem dX6_put_62 : decode cX6_put 62 = .ok (.iconst 1, 1) := by decide +kernel
theorem dX6_put_63 : decode cX6_put 63 = .ok (.ireturn, 1) := by decide +kernel
theorem dX6_move_0 : decode cX6_move 0 = .ok (.aload_n 0, 1) := by decide +kernel
theorem dX6_move_1 : decode cX6_move 1 = .ok (.iload_n 1, 1) := by decide +kernel
theorem dX6_move_2 : decode cX6_move 2 = .ok (.invokevirtual 243, 3) := by decide +kernel
theorem dX6_move_5 : decode cX6_move 5 = .ok (.ifCond .eq 11, 3) := by decide +kernel
theorem dX6_move_8 : decode cX6_move 8 = .ok (.aload_n 0, 1) := by decide +kernel
theorem dX6_move_9 : decode cX6_move 9 = .ok (.iload_n 3, 1) := by decide +kernel
theorem dX6_move_10 : decode cX6_move 10 = .ok (.invokevirtual 243, 3) := by decide +kernel
theorem dX6_move_13 : decode cX6_move 13 = .ok (.ifCond .ne 9, 3) := by decide +kernel
theorem dX6_move_16 : decode cX6_move 16 = .ok (.aload_n 0, 1) := by decide +kernel
theorem dX6_move_17 : decode cX6_move 17 = .ok (.iconst 1, 1) := by decide +kernel
theorem dX6_move_18 : decode cX6_move 18 = .ok (.invokevirtual 58, 3) := by decide +kernel
theorem dX6_move_21 : decode cX6_move 21 = .ok (.ireturn, 1) := by decide +kernel
theorem dX6_move_22 : decode cX6_move 22 = .ok (.aload_n 0, 1) := by decide +kernel
theorem dX6_move_23 : decode cX6_move 23 = .ok (.getfield 42, 3) := by decide +kernel
theorem dX6_move_26 : decode cX6_move 26 = .ok (.iload_n 1, 1) := by decide +kernel
theorem dX6_move_27 : decode cX6_move 27 = .ok (.aaload, 1) := by decide +kernel
theorem dX6_move_28 : decode cX6_move 28 = .ok (.astore 6, 2) := by decide +kernel
theorem dX6_move_30 : decode cX6_move 30 = .ok (.aload_n 0, 1) := by decide +kernel
theorem dX6_move_31 : decode cX6_move 31 = .ok (.getfield 42, 3) := by decide +kernel
theorem dX6_move_34 : decode cX6_move 34 = .ok (.iload_n 3, 1) := by decide +kernel
theorem dX6_move_35 : decode cX6_move 35 = .ok (.aaload, 1) := by decide +kernel
theorem dX6_move_36 : decode cX6_move 36 = .ok (.astore 7, 2) := by decide +kernel
theorem dX6_move_38 : decode cX6_move 38 = .ok (.aload 6, 2) := by decide +kernel
theorem dX6_move_40 : decode cX6_move 40 = .ok (.getfield 246, 3) := by decide +kernel
theorem dX6_move_43 : decode cX6_move 43 = .ok (.ifCond .eq 11, 3) := by decide +kernel
theorem dX6_move_46 : decode cX6_move 46 = .ok (.aload 7, 2) := by decide +kernel
theorem dX6_move_48 : decode cX6_move 48 = .ok (.getfield 246, 3) := by decide +kernel
theorem dX6_move_51 : decode cX6_move 51 = .ok (.ifCond .ne 9, 3) := by decide +kernel
theorem dX6_move_54 : decode cX6_move 54 = .ok (.aload_n 0, 1) := by decide +kernel
theorem dX6_move_55 : decode cX6_move 55 = .ok (.iconst 2, 1) := by decide +kernel
theorem dX6_move_56 : decode cX6_move 56 = .ok (.invokevirtual 58, 3) := by decide +kernel
theorem dX6_move_59 : decode cX6_move 59 = .ok (.ireturn, 1) := by decide +kernel
theorem dX6_move_60 : decode cX6_move 60 = .ok (.aload 6, 2) := by decide +kernel
theorem dX6_move_62 : decode cX6_move 62 = .ok (.getfield 246, 3) := by decide +kernel
theorem dX6_move_65 : decode cX6_move 65 = .ok (.aload 7, 2) := by decide +kernel
theorem dX6_move_67 : decode cX6_move 67 = .ok (.getfield 246, 3) := by decide +kernel
theorem dX6_move_70 : decode cX6_move 70 = .ok (.if_icmp .eq 9, 3) := by decide +kernel
theorem dX6_move_73 : decode cX6_move 73 = .ok (.aload_n 0, 1) := by decide +kernel
theorem dX6_move_74 : decode cX6_move 74 = .ok (.iconst 5, 1) := by decide +kernel
theorem dX6_move_75 : decode cX6_move 75 = .ok (.invokevirtual 58, 3) := by decide +kernel
theorem dX6_move_78 : decode cX6_move 78 = .ok (.ireturn, 1) := by decide +kernel
theorem dX6_move_79 : decode cX6_move 79 = .ok (.aload 6, 2) := by decide +kernel
theorem dX6_move_81 : decode cX6_move 81 = .ok (.iload_n 2, 1) := by decide +kernel
theorem dX6_move_82 : decode cX6_move 82 = .ok (.iload 5, 2) := by decide +kernel
theorem dX6_move_84 : decode cX6_move 84 = .ok (.invokevirtual 281, 3) := by decide +kernel
theorem dX6_move_87 : decode cX6_move 87 = .ok (.ifCond .eq 15, 3) := by decide +kernel
theorem dX6_move_90 : decode cX6_move 90 = .ok (.aload 7, 2) := by decide +kernel
theorem dX6_move_92 : decode cX6_move 92 = .ok (.iload 4, 2) := by decide +kernel
theorem dX6_move_94 : decode cX6_move 94 = .ok (.iload 5, 2) := by decide +kernel
theorem dX6_move_96 : decode cX6_move 96 = .ok (.invokevirtual 281, 3) := by decide +kernel
theorem dX6_move_99 : decode cX6_move 99 = .ok (.ifCond .ne 9, 3) := by decide +kernel
theorem dX6_move_102 : decode cX6_move 102 = .ok (.aload_n 0, 1) := by decide +kernel
theorem dX6_move_103 : decode cX6_move 103 = .ok (.iconst 1, 1) := by decide +kernel
theorem dX6_move_104 : decode cX6_move 104 = .ok (.invokevirtual 58, 3) := by decide +kernel
theorem dX6_move_107 : decode cX6_move 107 = .ok (.ireturn, 1) := by decide +kernel
theorem dX6_move_108 : decode cX6_move 108 = .ok (.aload 6, 2) := by decide +kernel
theorem dX6_move_110 : decode cX6_move 110 = .ok (.getfield 253, 3) := by decide +kernel
theorem dX6_move_113 : decode cX6_move 113 = .ok (.iload_n 2, 1) := by decide +kernel
theorem dX6_move_114 : decode cX6_move 114 = .ok (.aload 7, 2) := by decide +kernel
theorem dX6_move_116 : decode cX6_move 116 = .ok (.getfield 253, 3) := by decide +kernel
theorem dX6_move_119 : decode cX6_move 119 = .ok (.iload 4, 2) := by decide +kernel
theorem dX6_move_121 : decode cX6_move 121 = .ok (.iload 5, 2) := by decide +kernel
theorem dX6_move_123 : decode cX6_move 123 = .ok (.invokestatic 284, 3) := by decide +kernel
theorem dX6_move_126 : decode cX6_move 126 = .ok (.iload 5, 2) := by decide +kernel
theorem dX6_move_128 : decode cX6_move 128 = .ok (.ireturn, 1) := by decide +kernel
theorem dX6_healths_0 : decode cX6_healths 0 = .ok (.aload_n 0, 1) := by decide +kernel
theorem dX6_healths_1 : decode cX6_healths 1 = .ok (.iload_n 1, 1) := by decide +kernel
theorem dX6_healths_2 : decode cX6_healths 2 = .ok (.invokevirtual 243, 3) := by decide +kernel
theorem dX6_healths_5 : decode cX6_healths 5 = .ok (.ifCond .ne 9, 3) := by decide +kernel
theorem dX6_healths_8 : decode cX6_healths 8 = .ok (.aload_n 0, 1) := by decide +kernel
theorem dX6_healths_9 : decode cX6_healths 9 = .ok (.iconst 1, 1) := by decide +kernel
theorem dX6_healths_10 : decode cX6_healths 10 = .ok (.invokevirtual 58, 3) := by decide +kernel
theorem dX6_healths_13 : decode cX6_healths 13 = .ok (.ireturn, 1) := by decide +kernel
theorem dX6_healths_14 : decode cX6_healths 14 = .ok (.aload_n 0, 1) := by decide +kernel
theorem dX6_healths_15 : decode cX6_healths 15 = .ok (.getfield 42, 3) := by decide +kernel
theorem dX6_healths_18 : decode cX6_healths 18 = .ok (.iload_n 1, 1) := by decide +kernel
theorem dX6_healths_19 : decode cX6_healths 19 = .ok (.aaload, 1) := by decide +kernel
theorem dX6_healths_20 : decode cX6_healths 20 = .ok (.astore_n 2, 1) := by decide +kernel
theorem dX6_healths_21 : decode cX6_healths 21 = .ok (.aload_n 2, 1) := by decide +kernel
theorem dX6_healths_22 : decode cX6_healths 22 = .ok (.getfield 246, 3) := by decide +kernel
theorem dX6_healths_25 : decode cX6_healths 25 = .ok (.ifCond .ne 9, 3) := by decide +kernel
theorem dX6_healths_28 : decode cX6_healths 28 = .ok (.aload_n 0, 1) := by decide +kernel
theorem dX6_healths_29 : decode cX6_healths 29 = .ok (.iconst 2, 1) := by decide +kernel
theorem dX6_healths_30 : decode cX6_healths 30 = .ok (.invokevirtual 58, 3) := by decide +kernel
theorem dX6_healths_33 : decode cX6_healths 33 = .ok (.ireturn, 1) := by decide +kernel
theorem dX6_healths_34 : decode cX6_healths 34 = .ok (.aload_n 2, 1) := by decide +kernel
theorem dX6_healths_35 : decode cX6_healths 35 = .ok (.getfield 249, 3) := by decide +kernel
theorem dX6_healths_38 : decode cX6_healths 38 = .ok (.aload_n 0, 1) := by decide +kernel
theorem dX6_healths_39 : decode cX6_healths 39 = .ok (.getfield 10, 3) := by decide +kernel
theorem dX6_healths_42 : decode cX6_healths 42 = .ok (.getfield 62, 3) := by decide +kernel
theorem dX6_healths_45 : decode cX6_healths 45 = .ok (.getfield 65, 3) := by decide +kernel
theorem dX6_healths_48 : decode cX6_healths 48 = .ok (.invokestatic 229, 3) := by decide +kernel
theorem dX6_healths_51 : decode cX6_healths 51 = .ok (.istore_n 3, 1) := by decide +kernel
theorem dX6_healths_52 : decode cX6_healths 52 = .ok (.iconst 0, 1) := by decide +kernel
theorem dX6_healths_53 : decode cX6_healths 53 = .ok (.istore 4, 2) := by decide +kernel
theorem dX6_healths_55 : decode cX6_healths 55 = .ok (.iload 4, 2) := by decide +kernel
theorem dX6_healths_57 : decode cX6_healths 57 = .ok (.iload_n 3, 1) := by decide +kernel
theorem dX6_healths_58 : decode cX6_healths 58 = .ok (.if_icmp .ge 48, 3) := by decide +kernel
theorem dX6_healths_61 : decode cX6_healths 61 = .ok (.aload_n 2, 1) := by decide +kernel
theorem dX6_healths_62 : decode cX6_healths 62 = .ok (.getfield 253, 3) := by decide +kernel
theorem dX6_healths_65 : decode cX6_healths 65 = .ok (.iload 4, 2) := by decide +kernel
theorem dX6_healths_67 : decode cX6_healths 67 = .ok (.iaload, 1) := by decide +kernel
theorem dX6_healths_68 : decode cX6_healths 68 = .ok (.istore 5, 2) := by decide +kernel
theorem dX6_healths_70 : decode cX6_healths 70 = .ok (.iload 5, 2) := by decide +kernel
theorem dX6_healths_72 : decode cX6_healths 72 = .ok (.ifCond .lt 10, 3) := by decide +kernel
theorem dX6_healths_75 : decode cX6_healths 75 = .ok (.iload 5, 2) := by decide +kernel
theorem dX6_healths_77 : decode cX6_healths 77 = .ok (.bipush 99, 2) := by decide +kernel
theorem dX6_healths_79 : decode cX6_healths 79 = .ok (.if_icmp .le 6, 3) := by decide +kernel
theorem dX6_healths_82 : decode cX6_healths 82 = .ok (.iload 4, 2) := by decide +kernel
theorem dX6_healths_84 : decode cX6_healths 84 = .ok (.ireturn, 1) := by decide +kernel
theorem dX6_healths_85 : decode cX6_healths 85 = .ok (.aload_n 0, 1) := by decide +kernel
theorem dX6_healths_86 : decode cX6_healths 86 = .ok (.getfield 10, 3) := by decide +kernel
theorem dX6_healths_89 : decode cX6_healths 89 = .ok (.getfield 62, 3) := by decide +kernel
theorem dX6_healths_92 : decode cX6_healths 92 = .ok (.getfield 84, 3) := by decide +kernel
theorem dX6_healths_95 : decode cX6_healths 95 = .ok (.iload 4, 2) := by decide +kernel
theorem dX6_healths_97 : decode cX6_healths 97 = .ok (.iload 5, 2) := by decide +kernel
theorem dX6_healths_99 : decode cX6_healths 99 = .ok (.iastore, 1) := by decide +kernel
theorem dX6_healths_100 : decode cX6_healths 100 = .ok (.iinc 4 1, 3) := by decide +kernel
theorem dX6_healths_103 : decode cX6_healths 103 = .ok (.goto (-48), 3) := by decide +kernel
theorem dX6_healths_106 : decode cX6_healths 106 = .ok (.iload_n 3, 1) := by decide +kernel
theorem dX6_healths_107 : decode cX6_healths 107 = .ok (.ireturn, 1) := by decide +kernel
theorem dX6_judge_0 : decode cX6_judge 0 = .ok (.aload_n 0, 1) := by decide +kernel
theorem dX6_judge_1 : decode cX6_judge 1 = .ok (.iload_n 1, 1) := by decide +kernel
theorem dX6_judge_2 : decode cX6_judge 2 = .ok (.invokevirtual 243, 3) := by decide +kernel
theorem dX6_judge_5 : decode cX6_judge 5 = .ok (.ifCond .ne 9, 3) := by decide +kernel
theorem dX6_judge_8 : decode cX6_judge 8 = .ok (.aload_n 0, 1) := by decide +kernel
theorem dX6_judge_9 : decode cX6_judge 9 = .ok (.iconst 1, 1) := by decide +kernel
theorem dX6_judge_10 : decode cX6_judge 10 = .ok (.invokevirtual 58, 3) := by decide +kernel
theorem dX6_judge_13 : decode cX6_judge 13 = .ok (.ireturn, 1) := by decide +kernel
theorem dX6_judge_14 : decode cX6_judge 14 = .ok (.aload_n 0, 1) := by decide +kernel
theorem dX6_judge_15 : decode cX6_judge 15 = .ok (.getfield 42, 3) := by decide +kernel
theorem dX6_judge_18 : decode cX6_judge 18 = .ok (.iload_n 1, 1) := by decide +kernel
theorem dX6_judge_19 : decode cX6_judge 19 = .ok (.aaload, 1) := by decide +kernel
theorem dX6_judge_20 : decode cX6_judge 20 = .ok (.astore_n 2, 1) := by decide +kernel
theorem dX6_judge_21 : decode cX6_judge 21 = .ok (.aload_n 2, 1) := by decide +kernel
theorem dX6_judge_22 : decode cX6_judge 22 = .ok (.getfield 246, 3) := by decide +kernel
theorem dX6_judge_25 : decode cX6_judge 25 = .ok (.ifCond .ne 9, 3) := by decide +kernel
theorem dX6_judge_28 : decode cX6_judge 28 = .ok (.aload_n 0, 1) := by decide +kernel
theorem dX6_judge_29 : decode cX6_judge 29 = .ok (.iconst 2, 1) := by decide +kernel
theorem dX6_judge_30 : decode cX6_judge 30 = .ok (.invokevirtual 58, 3) := by decide +kernel
theorem dX6_judge_33 : decode cX6_judge 33 = .ok (.ireturn, 1) := by decide +kernel
theorem dX6_judge_34 : decode cX6_judge 34 = .ok (.aload_n 2, 1) := by decide +kernel
theorem dX6_judge_35 : decode cX6_judge 35 = .ok (.getfield 249, 3) := by decide +kernel
theorem dX6_judge_38 : decode cX6_judge 38 = .ok (.aload_n 0, 1) := by decide +kernel
theorem dX6_judge_39 : decode cX6_judge 39 = .ok (.getfield 10, 3) := by decide +kernel
theorem dX6_judge_42 : decode cX6_judge 42 = .ok (.getfield 62, 3) := by decide +kernel
theorem dX6_judge_45 : decode cX6_judge 45 = .ok (.getfield 65, 3) := by decide +kernel
theorem dX6_judge_48 : decode cX6_judge 48 = .ok (.invokestatic 229, 3) := by decide +kernel
theorem dX6_judge_51 : decode cX6_judge 51 = .ok (.istore_n 3, 1) := by decide +kernel
theorem dX6_judge_52 : decode cX6_judge 52 = .ok (.iconst 0, 1) := by decide +kernel
theorem dX6_judge_53 : decode cX6_judge 53 = .ok (.istore 4, 2) := by decide +kernel
theorem dX6_judge_55 : decode cX6_judge 55 = .ok (.iload 4, 2) := by decide +kernel
theorem dX6_judge_57 : decode cX6_judge 57 = .ok (.iload_n 3, 1) := by decide +kernel
theorem dX6_judge_58 : decode cX6_judge 58 = .ok (.if_icmp .ge 35, 3) := by decide +kernel
theorem dX6_judge_61 : decode cX6_judge 61 = .ok (.aload_n 2, 1) := by decide +kernel
theorem dX6_judge_62 : decode cX6_judge 62 = .ok (.getfield 253, 3) := by decide +kernel
theorem dX6_judge_65 : decode cX6_judge 65 = .ok (.iload 4, 2) := by decide +kernel
theorem dX6_judge_67 : decode cX6_judge 67 = .ok (.iaload, 1) := by decide +kernel
theorem dX6_judge_68 : decode cX6_judge 68 = .ok (.aload_n 0, 1) := by decide +kernel
theorem dX6_judge_69 : decode cX6_judge 69 = .ok (.getfield 10, 3) := by decide +kernel
theorem dX6_judge_72 : decode cX6_judge 72 = .ok (.getfield 62, 3) := by decide +kernel
theorem dX6_judge_75 : decode cX6_judge 75 = .ok (.getfield 81, 3) := by decide +kernel
theorem dX6_judge_78 : decode cX6_judge 78 = .ok (.iload 4, 2) := by decide +kernel
theorem dX6_judge_80 : decode cX6_judge 80 = .ok (.iaload, 1) := by decide +kernel
theorem dX6_judge_81 : decode cX6_judge 81 = .ok (.if_icmp .eq 6, 3) := by decide +kernel
theorem dX6_judge_84 : decode cX6_judge 84 = .ok (.iload 4, 2) := by decide +kernel
theorem dX6_judge_86 : decode cX6_judge 86 = .ok (.ireturn, 1) := by decide +kernel
theorem dX6_judge_87 : decode cX6_judge 87 = .ok (.iinc 4 1, 3) := by decide +kernel
theorem dX6_judge_90 : decode cX6_judge 90 = .ok (.goto (-35), 3) := by decide +kernel
theorem dX6_judge_93 : decode cX6_judge 93 = .ok (.aload_n 2, 1) := by decide +kernel
theorem dX6_judge_94 : decode cX6_judge 94 = .ok (.getfield 249, 3) := by decide +kernel
theorem dX6_judge_97 : decode cX6_judge 97 = .ok (.aload_n 0, 1) := by decide +kernel
theorem dX6_judge_98 : decode cX6_judge 98 = .ok (.getfield 10, 3) := by decide +kernel
theorem dX6_judge_101 : decode cX6_judge 101 = .ok (.getfield 62, 3) := by decide +kernel
theorem dX6_judge_104 : decode cX6_judge 104 = .ok (.getfield 65, 3) := by decide +kernel
theorem dX6_judge_107 : decode cX6_judge 107 = .ok (.if_icmp .ne 7, 3) := by decide +kernel
theorem dX6_judge_110 : decode cX6_judge 110 = .ok (.iconst (-1), 1) := by decide +kernel
theorem dX6_judge_111 : decode cX6_judge 111 = .ok (.goto 4, 3) := by decide +kernel
theorem dX6_judge_114 : decode cX6_judge 114 = .ok (.iload_n 3, 1) := by decide +kernel
theorem dX6_judge_115 : decode cX6_judge 115 = .ok (.ireturn, 1) := by decide +kernel
theorem dX6_image_0 : decode cX6_image 0 = .ok (.aload_n 0, 1) := by decide +kernel
theorem dX6_image_1 : decode cX6_image 1 = .ok (.getfield 16, 3) := by decide +kernel
theorem dX6_image_4 : decode cX6_image 4 = .ok (.aload_n 0, 1) := by decide +kernel
theorem dX6_image_5 : decode cX6_image 5 = .ok (.getfield 10, 3) := by decide +kernel
theorem dX6_image_8 : decode cX6_image 8 = .ok (.invokevirtual 290, 3) := by decide +kernel
theorem dX6_image_11 : decode cX6_image 11 = .ok (.aload_n 0, 1) := by decide +kernel
theorem dX6_image_12 : decode cX6_image 12 = .ok (.dup, 1) := by decide +kernel
theorem dX6_image_13 : decode cX6_image 13 = .ok (.getfield 293, 3) := by decide +kernel
theorem dX6_image_16 : decode cX6_image 16 = .ok (.iconst 1, 1) := by decide +kernel
theorem dX6_image_17 : decode cX6_image 17 = .ok (.iadd, 1) := by decide +kernel
theorem dX6_image_18 : decode cX6_image 18 = .ok (.putfield 293, 3) := by decide +kernel
theorem dX6_image_21 : decode cX6_image 21 = .ok (.aload_n 0, 1) := by decide +kernel
theorem dX6_image_22 : decode cX6_image 22 = .ok (.getfield 293, 3) := by decide +kernel
theorem dX6_image_25 : decode cX6_image 25 = .ok (.ireturn, 1) := by decide +kernel
theorem dX6_restore_0 : decode cX6_restore 0 = .ok (.aload_n 0, 1) := by decide +kernel
theorem dX6_restore_1 : decode cX6_restore 1 = .ok (.getfield 293, 3) := by decide +kernel
theorem dX6_restore_4 : decode cX6_restore 4 = .ok (.ifCond .ne 9, 3) := by decide +kernel
theorem dX6_restore_7 : decode cX6_restore 7 = .ok (.aload_n 0, 1) := by decide +kernel
theorem dX6_restore_8 : decode cX6_restore 8 = .ok (.iconst 2, 1) := by decide +kernel
theorem dX6_restore_9 : decode cX6_restore 9 = .ok (.invokevirtual 58, 3) := by decide +kernel
theorem dX6_restore_12 : decode cX6_restore 12 = .ok (.ireturn, 1) := by decide +kernel
theorem dX6_restore_13 : decode cX6_restore 13 = .ok (.aload_n 0, 1) := by decide +kernel
theorem dX6_restore_14 : decode cX6_restore 14 = .ok (.getfield 10, 3) := by decide +kernel
theorem dX6_restore_17 : decode cX6_restore 17 = .ok (.aload_n 0, 1) := by decide +kernel
theorem dX6_restore_18 : decode cX6_restore 18 = .ok (.getfield 16, 3) := by decide +kernel
theorem dX6_restore_21 : decode cX6_restore 21 = .ok (.invokevirtual 290, 3) := by decide +kernel
theorem dX6_restore_24 : decode cX6_restore 24 = .ok (.aload_n 0, 1) := by decide +kernel
theorem dX6_restore_25 : decode cX6_restore 25 = .ok (.getfield 10, 3) := by decide +kernel
theorem dX6_restore_28 : decode cX6_restore 28 = .ok (.getfield 189, 3) := by decide +kernel
theorem dX6_restore_31 : decode cX6_restore 31 = .ok (.ireturn, 1) := by decide +kernel
theorem dX6_tell_0 : decode cX6_tell 0 = .ok (.aload_n 0, 1) := by decide +kernel
theorem dX6_tell_1 : decode cX6_tell 1 = .ok (.getfield 10, 3) := by decide +kernel
theorem dX6_tell_4 : decode cX6_tell 4 = .ok (.getfield 296, 3) := by decide +kernel
theorem dX6_tell_7 : decode cX6_tell 7 = .ok (.bipush 20, 2) := by decide +kernel
theorem dX6_tell_9 : decode cX6_tell 9 = .ok (.if_icmp .lt 9, 3) := by decide +kernel
theorem dX6_tell_12 : decode cX6_tell 12 = .ok (.aload_n 0, 1) := by decide +kernel
theorem dX6_tell_13 : decode cX6_tell 13 = .ok (.iconst 4, 1) := by decide +kernel
theorem dX6_tell_14 : decode cX6_tell 14 = .ok (.invokevirtual 58, 3) := by decide +kernel
theorem dX6_tell_17 : decode cX6_tell 17 = .ok (.ireturn, 1) := by decide +kernel
theorem dX6_tell_18 : decode cX6_tell 18 = .ok (.aload_n 0, 1) := by decide +kernel
theorem dX6_tell_19 : decode cX6_tell 19 = .ok (.getfield 10, 3) := by decide +kernel
theorem dX6_tell_22 : decode cX6_tell 22 = .ok (.getfield 299, 3) := by decide +kernel
theorem dX6_tell_25 : decode cX6_tell 25 = .ok (.aload_n 0, 1) := by decide +kernel
theorem dX6_tell_26 : decode cX6_tell 26 = .ok (.getfield 10, 3) := by decide +kernel
theorem dX6_tell_29 : decode cX6_tell 29 = .ok (.getfield 296, 3) := by decide +kernel
theorem dX6_tell_32 : decode cX6_tell 32 = .ok (.iload_n 1, 1) := by decide +kernel
theorem dX6_tell_33 : decode cX6_tell 33 = .ok (.iastore, 1) := by decide +kernel
theorem dX6_tell_34 : decode cX6_tell 34 = .ok (.aload_n 0, 1) := by decide +kernel
theorem dX6_tell_35 : decode cX6_tell 35 = .ok (.getfield 10, 3) := by decide +kernel
theorem dX6_tell_38 : decode cX6_tell 38 = .ok (.dup, 1) := by decide +kernel
theorem dX6_tell_39 : decode cX6_tell 39 = .ok (.getfield 296, 3) := by decide +kernel
theorem dX6_tell_42 : decode cX6_tell 42 = .ok (.iconst 1, 1) := by decide +kernel
theorem dX6_tell_43 : decode cX6_tell 43 = .ok (.iadd, 1) := by decide +kernel
theorem dX6_tell_44 : decode cX6_tell 44 = .ok (.putfield 296, 3) := by decide +kernel
theorem dX6_tell_47 : decode cX6_tell 47 = .ok (.aload_n 0, 1) := by decide +kernel
theorem dX6_tell_48 : decode cX6_tell 48 = .ok (.getfield 10, 3) := by decide +kernel
theorem dX6_tell_51 : decode cX6_tell 51 = .ok (.getfield 296, 3) := by decide +kernel
theorem dX6_tell_54 : decode cX6_tell 54 = .ok (.ireturn, 1) := by decide +kernel
theorem dX6_check_0 : decode cX6_check 0 = .ok (.aload_n 0, 1) := by decide +kernel
theorem dX6_check_1 : decode cX6_check 1 = .ok (.getfield 10, 3) := by decide +kernel
theorem dX6_check_4 : decode cX6_check 4 = .ok (.getfield 296, 3) := by decide +kernel
theorem dX6_check_7 : decode cX6_check 7 = .ok (.istore_n 1, 1) := by decide +kernel
theorem dX6_check_8 : decode cX6_check 8 = .ok (.aload_n 0, 1) := by decide +kernel
theorem dX6_check_9 : decode cX6_check 9 = .ok (.getfield 10, 3) := by decide +kernel
theorem dX6_check_12 : decode cX6_check 12 = .ok (.iconst 0, 1) := by decide +kernel
theorem dX6_check_13 : decode cX6_check 13 = .ok (.putfield 296, 3) := by decide +kernel
theorem dX6_check_16 : decode cX6_check 16 = .ok (.aload_n 0, 1) := by decide +kernel
theorem dX6_check_17 : decode cX6_check 17 = .ok (.aload_n 0, 1) := by decide +kernel
theorem dX6_check_18 : decode cX6_check 18 = .ok (.getfield 10, 3) := by decide +kernel
theorem dX6_check_21 : decode cX6_check 21 = .ok (.getfield 144, 3) := by decide +kernel
theorem dX6_check_24 : decode cX6_check 24 = .ok (.iload_n 1, 1) := by decide +kernel
theorem dX6_check_25 : decode cX6_check 25 = .ok (.invokevirtual 207, 3) := by decide +kernel
theorem dX6_check_28 : decode cX6_check 28 = .ok (.aload_n 0, 1) := by decide +kernel
theorem dX6_check_29 : decode cX6_check 29 = .ok (.getfield 22, 3) := by decide +kernel
theorem dX6_check_32 : decode cX6_check 32 = .ok (.aload_n 0, 1) := by decide +kernel
theorem dX6_check_33 : decode cX6_check 33 = .ok (.getfield 10, 3) := by decide +kernel
theorem dX6_check_36 : decode cX6_check 36 = .ok (.getfield 62, 3) := by decide +kernel
theorem dX6_check_39 : decode cX6_check 39 = .ok (.invokevirtual 218, 3) := by decide +kernel
theorem dX6_check_42 : decode cX6_check 42 = .ok (.iconst 0, 1) := by decide +kernel
theorem dX6_check_43 : decode cX6_check 43 = .ok (.istore_n 2, 1) := by decide +kernel
theorem dX6_check_44 : decode cX6_check 44 = .ok (.iload_n 2, 1) := by decide +kernel
theorem dX6_check_45 : decode cX6_check 45 = .ok (.iload_n 1, 1) := by decide +kernel
theorem dX6_check_46 : decode cX6_check 46 = .ok (.if_icmp .ge 55, 3) := by decide +kernel
theorem dX6_check_49 : decode cX6_check 49 = .ok (.aload_n 0, 1) := by decide +kernel
theorem dX6_check_50 : decode cX6_check 50 = .ok (.getfield 22, 3) := by decide +kernel
theorem dX6_check_53 : decode cX6_check 53 = .ok (.aload_n 0, 1) := by decide +kernel
theorem dX6_check_54 : decode cX6_check 54 = .ok (.getfield 46, 3) := by decide +kernel
theorem dX6_check_57 : decode cX6_check 57 = .ok (.iload_n 2, 1) := by decide +kernel
theorem dX6_check_58 : decode cX6_check 58 = .ok (.iaload, 1) := by decide +kernel
theorem dX6_check_59 : decode cX6_check 59 = .ok (.aload_n 0, 1) := by decide +kernel
theorem dX6_check_60 : decode cX6_check 60 = .ok (.getfield 10, 3) := by decide +kernel
theorem dX6_check_63 : decode cX6_check 63 = .ok (.getfield 222, 3) := by decide +kernel
theorem dX6_check_66 : decode cX6_check 66 = .ok (.invokevirtual 226, 3) := by decide +kernel
theorem dX6_check_69 : decode cX6_check 69 = .ok (.aload_n 0, 1) := by decide +kernel
theorem dX6_check_70 : decode cX6_check 70 = .ok (.getfield 10, 3) := by decide +kernel
theorem dX6_check_73 : decode cX6_check 73 = .ok (.getfield 299, 3) := by decide +kernel
theorem dX6_check_76 : decode cX6_check 76 = .ok (.iload_n 2, 1) := by decide +kernel
theorem dX6_check_77 : decode cX6_check 77 = .ok (.iaload, 1) := by decide +kernel
theorem dX6_check_78 : decode cX6_check 78 = .ok (.aload_n 0, 1) := by decide +kernel
theorem dX6_check_79 : decode cX6_check 79 = .ok (.getfield 22, 3) := by decide +kernel
theorem dX6_check_82 : decode cX6_check 82 = .ok (.invokevirtual 195, 3) := by decide +kernel
theorem dX6_check_85 : decode cX6_check 85 = .ok (.invokestatic 199, 3) := by decide +kernel
theorem dX6_check_88 : decode cX6_check 88 = .ok (.if_icmp .eq 7, 3) := by decide +kernel
theorem dX6_check_91 : decode cX6_check 91 = .ok (.iconst 1, 1) := by decide +kernel
theorem dX6_check_92 : decode cX6_check 92 = .ok (.iload_n 2, 1) := by decide +kernel
theorem dX6_check_93 : decode cX6_check 93 = .ok (.iadd, 1) := by decide +kernel
theorem dX6_check_94 : decode cX6_check 94 = .ok (.ireturn, 1) := by decide +kernel
theorem dX6_check_95 : decode cX6_check 95 = .ok (.iinc 2 1, 3) := by decide +kernel
theorem dX6_check_98 : decode cX6_check 98 = .ok (.goto (-54), 3) := by decide +kernel
theorem dX6_check_101 : decode cX6_check 101 = .ok (.iconst 0, 1) := by decide +kernel
theorem dX6_check_102 : decode cX6_check 102 = .ok (.ireturn, 1) := by decide +kernel
theorem dX6_count_0 : decode cX6_count 0 = .ok (.iload_n 1, 1) := by decide +kernel
theorem dX6_count_1 : decode cX6_count 1 = .ok (.tableswitch 213 0 13 #[71, 82, 90, 98, 112, 120, 128, 136, 144, 152, 181, 189, 197, 205], 71) := by decide +kernel
theorem dX6_count_72 : decode cX6_count 72 = .ok (.aload_n 0, 1) := by decide +kernel
theorem dX6_count_73 : decode cX6_count 73 = .ok (.getfield 10, 3) := by decide +kernel
theorem dX6_count_76 : decode cX6_count 76 = .ok (.getfield 62, 3) := by decide +kernel
theorem dX6_count_79 : decode cX6_count 79 = .ok (.getfield 65, 3) := by decide +kernel
theorem dX6_count_82 : decode cX6_count 82 = .ok (.ireturn, 1) := by decide +kernel
theorem dX6_count_83 : decode cX6_count 83 = .ok (.aload_n 0, 1) := by decide +kernel
theorem dX6_count_84 : decode cX6_count 84 = .ok (.getfield 10, 3) := by decide +kernel
theorem dX6_count_87 : decode cX6_count 87 = .ok (.getfield 120, 3) := by decide +kernel
theorem dX6_count_90 : decode cX6_count 90 = .ok (.ireturn, 1) := by decide +kernel
theorem dX6_count_91 : decode cX6_count 91 = .ok (.aload_n 0, 1) := by decide +kernel
theorem dX6_count_92 : decode cX6_count 92 = .ok (.getfield 10, 3) := by decide +kernel
theorem dX6_count_95 : decode cX6_count 95 = .ok (.getfield 189, 3) := by decide +kernel
theorem dX6_count_98 : decode cX6_count 98 = .ok (.ireturn, 1) := by decide +kernel
theorem dX6_count_99 : decode cX6_count 99 = .ok (.aload_n 0, 1) := by decide +kernel
theorem dX6_count_100 : decode cX6_count 100 = .ok (.getfield 10, 3) := by decide +kernel
theorem dX6_count_103 : decode cX6_count 103 = .ok (.getfield 62, 3) := by decide +kernel
theorem dX6_count_106 : decode cX6_count 106 = .ok (.invokevirtual 195, 3) := by decide +kernel
theorem dX6_count_109 : decode cX6_count 109 = .ok (.invokestatic 199, 3) := by decide +kernel
theorem dX6_count_112 : decode cX6_count 112 = .ok (.ireturn, 1) := by decide +kernel
theorem dX6_count_113 : decode cX6_count 113 = .ok (.aload_n 0, 1) := by decide +kernel
theorem dX6_count_114 : decode cX6_count 114 = .ok (.getfield 10, 3) := by decide +kernel
theorem dX6_count_117 : decode cX6_count 117 = .ok (.getfield 132, 3) := by decide +kernel
theorem dX6_count_120 : decode cX6_count 120 = .ok (.ireturn, 1) := by decide +kernel
theorem dX6_count_121 : decode cX6_count 121 = .ok (.aload_n 0, 1) := by decide +kernel
theorem dX6_count_122 : decode cX6_count 122 = .ok (.getfield 10, 3) := by decide +kernel
theorem dX6_count_125 : decode cX6_count 125 = .ok (.getfield 186, 3) := by decide +kernel
theorem dX6_count_128 : decode cX6_count 128 = .ok (.ireturn, 1) := by decide +kernel
theorem dX6_count_129 : decode cX6_count 129 = .ok (.aload_n 0, 1) := by decide +kernel
theorem dX6_count_130 : decode cX6_count 130 = .ok (.getfield 10, 3) := by decide +kernel
theorem dX6_count_133 : decode cX6_count 133 = .ok (.getfield 183, 3) := by decide +kernel
theorem dX6_count_136 : decode cX6_count 136 = .ok (.ireturn, 1) := by decide +kernel
theorem dX6_count_137 : decode cX6_count 137 = .ok (.aload_n 0, 1) := by decide +kernel
theorem dX6_count_138 : decode cX6_count 138 = .ok (.getfield 10, 3) := by decide +kernel
theorem dX6_count_141 : decode cX6_count 141 = .ok (.getfield 147, 3) := by decide +kernel
theorem dX6_count_144 : decode cX6_count 144 = .ok (.ireturn, 1) := by decide +kernel
theorem dX6_count_145 : decode cX6_count 145 = .ok (.aload_n 0, 1) := by decide +kernel
theorem dX6_count_146 : decode cX6_count 146 = .ok (.getfield 10, 3) := by decide +kernel
theorem dX6_count_149 : decode cX6_count 149 = .ok (.getfield 144, 3) := by decide +kernel
theorem dX6_count_152 : decode cX6_count 152 = .ok (.ireturn, 1) := by decide +kernel
theorem dX6_count_153 : decode cX6_count 153 = .ok (.aload_n 0, 1) := by decide +kernel
theorem dX6_count_154 : decode cX6_count 154 = .ok (.getfield 10, 3) := by decide +kernel
theorem dX6_count_157 : decode cX6_count 157 = .ok (.aload_n 0, 1) := by decide +kernel
theorem dX6_count_158 : decode cX6_count 158 = .ok (.getfield 10, 3) := by decide +kernel
theorem dX6_count_161 : decode cX6_count 161 = .ok (.getfield 189, 3) := by decide +kernel
theorem dX6_count_164 : decode cX6_count 164 = .ok (.aload_n 0, 1) := by decide +kernel
theorem dX6_count_165 : decode cX6_count 165 = .ok (.getfield 10, 3) := by decide +kernel
theorem dX6_count_168 : decode cX6_count 168 = .ok (.getfield 144, 3) := by decide +kernel
theorem dX6_count_171 : decode cX6_count 171 = .ok (.aload_n 0, 1) := by decide +kernel
theorem dX6_count_172 : decode cX6_count 172 = .ok (.getfield 10, 3) := by decide +kernel
theorem dX6_count_175 : decode cX6_count 175 = .ok (.getfield 132, 3) := by decide +kernel
theorem dX6_count_178 : decode cX6_count 178 = .ok (.invokevirtual 302, 3) := by decide +kernel
theorem dX6_count_181 : decode cX6_count 181 = .ok (.ireturn, 1) := by decide +kernel
theorem dX6_count_182 : decode cX6_count 182 = .ok (.aload_n 0, 1) := by decide +kernel
theorem dX6_count_183 : decode cX6_count 183 = .ok (.getfield 10, 3) := by decide +kernel
theorem dX6_count_186 : decode cX6_count 186 = .ok (.getfield 150, 3) := by decide +kernel
theorem dX6_count_189 : decode cX6_count 189 = .ok (.ireturn, 1) := by decide +kernel
theorem dX6_count_190 : decode cX6_count 190 = .ok (.aload_n 0, 1) := by decide +kernel
theorem dX6_count_191 : decode cX6_count 191 = .ok (.getfield 10, 3) := by decide +kernel
theorem dX6_count_194 : decode cX6_count 194 = .ok (.getfield 296, 3) := by decide +kernel
theorem dX6_count_197 : decode cX6_count 197 = .ok (.ireturn, 1) := by decide +kernel
theorem dX6_count_198 : decode cX6_count 198 = .ok (.aload_n 0, 1) := by decide +kernel
theorem dX6_count_199 : decode cX6_count 199 = .ok (.getfield 36, 3) := by decide +kernel
theorem dX6_count_202 : decode cX6_count 202 = .ok (.getfield 266, 3) := by decide +kernel
theorem dX6_count_205 : decode cX6_count 205 = .ok (.ireturn, 1) := by decide +kernel
theorem dX6_count_206 : decode cX6_count 206 = .ok (.aload_n 0, 1) := by decide +kernel
theorem dX6_count_207 : decode cX6_count 207 = .ok (.getfield 10, 3) := by decide +kernel
theorem dX6_count_210 : decode cX6_count 210 = .ok (.getfield 259, 3) := by decide +kernel
theorem dX6_count_213 : decode cX6_count 213 = .ok (.ireturn, 1) := by decide +kernel
theorem dX6_count_214 : decode cX6_count 214 = .ok (.aload_n 0, 1) := by decide +kernel
theorem dX6_count_215 : decode cX6_count 215 = .ok (.iconst 1, 1) := by decide +kernel
theorem dX6_count_216 : decode cX6_count 216 = .ok (.invokevirtual 58, 3) := by decide +kernel
theorem dX6_count_219 : decode cX6_count 219 = .ok (.ireturn, 1) := by decide +kernel
theorem dX6_told_0 : decode cX6_told 0 = .ok (.iload_n 1, 1) := by decide +kernel
theorem dX6_told_1 : decode cX6_told 1 = .ok (.iconst 1, 1) := by decide +kernel
theorem dX6_told_2 : decode cX6_told 2 = .ok (.if_icmp .lt 8, 3) := by decide +kernel
theorem dX6_told_5 : decode cX6_told 5 = .ok (.iload_n 1, 1) := by decide +kernel
theorem dX6_told_6 : decode cX6_told 6 = .ok (.iconst 5, 1) := by decide +kernel
theorem dX6_told_7 : decode cX6_told 7 = .ok (.if_icmp .le 9, 3) := by decide +kernel
theorem dX6_told_10 : decode cX6_told 10 = .ok (.aload_n 0, 1) := by decide +kernel
theorem dX6_told_11 : decode cX6_told 11 = .ok (.iconst 1, 1) := by decide +kernel
theorem dX6_told_12 : decode cX6_told 12 = .ok (.invokevirtual 58, 3) := by decide +kernel
theorem dX6_told_15 : decode cX6_told 15 = .ok (.ireturn, 1) := by decide +kernel
theorem dX6_told_16 : decode cX6_told 16 = .ok (.aload_n 0, 1) := by decide +kernel
theorem dX6_told_17 : decode cX6_told 17 = .ok (.getfield 50, 3) := by decide +kernel
theorem dX6_told_20 : decode cX6_told 20 = .ok (.iload_n 1, 1) := by decide +kernel
theorem dX6_told_21 : decode cX6_told 21 = .ok (.iaload, 1) := by decide +kernel
theorem dX6_told_22 : decode cX6_told 22 = .ok (.ireturn, 1) := by decide +kernel
theorem dX6_fail_0 : decode cX6_fail 0 = .ok (.aload_n 0, 1) := by decide +kernel
theorem dX6_fail_1 : decode cX6_fail 1 = .ok (.getfield 50, 3) := by decide +kernel
theorem dX6_fail_4 : decode cX6_fail 4 = .ok (.iload_n 1, 1) := by decide +kernel
theorem dX6_fail_5 : decode cX6_fail 5 = .ok (.dup2, 1) := by decide +kernel
theorem dX6_fail_6 : decode cX6_fail 6 = .ok (.iaload, 1) := by decide +kernel
theorem dX6_fail_7 : decode cX6_fail 7 = .ok (.iconst 1, 1) := by decide +kernel
theorem dX6_fail_8 : decode cX6_fail 8 = .ok (.iadd, 1) := by decide +kernel
theorem dX6_fail_9 : decode cX6_fail 9 = .ok (.iastore, 1) := by decide +kernel
theorem dX6_fail_10 : decode cX6_fail 10 = .ok (.ldc_w 305, 3) := by decide +kernel
theorem dX6_fail_13 : decode cX6_fail 13 = .ok (.iload_n 1, 1) := by decide +kernel
theorem dX6_fail_14 : decode cX6_fail 14 = .ok (.isub, 1) := by decide +kernel
theorem dX6_fail_15 : decode cX6_fail 15 = .ok (.ireturn, 1) := by decide +kernel
theorem dX6_isKindAndMark_0 : decode cX6_isKindAndMark 0 = .ok (.iload_n 1, 1) := by decide +kernel
theorem dX6_isKindAndMark_1 : decode cX6_isKindAndMark 1 = .ok (.ifCond .lt 13, 3) := by decide +kernel
theorem dX6_isKindAndMark_4 : decode cX6_isKindAndMark 4 = .ok (.iload_n 1, 1) := by decide +kernel
theorem dX6_isKindAndMark_5 : decode cX6_isKindAndMark 5 = .ok (.bipush 70, 2) := by decide +kernel
theorem dX6_isKindAndMark_7 : decode cX6_isKindAndMark 7 = .ok (.if_icmp .ge 7, 3) := by decide +kernel
theorem dX6_isKindAndMark_10 : decode cX6_isKindAndMark 10 = .ok (.iconst 1, 1) := by decide +kernel
theorem dX6_isKindAndMark_11 : decode cX6_isKindAndMark 11 = .ok (.goto 4, 3) := by decide +kernel
theorem dX6_isKindAndMark_14 : decode cX6_isKindAndMark 14 = .ok (.iconst 0, 1) := by decide +kernel
theorem dX6_isKindAndMark_15 : decode cX6_isKindAndMark 15 = .ok (.ireturn, 1) := by decide +kernel
theorem dX6_isSetOfPeople_0 : decode cX6_isSetOfPeople 0 = .ok (.iload_n 1, 1) := by decide +kernel
theorem dX6_isSetOfPeople_1 : decode cX6_isSetOfPeople 1 = .ok (.ifCond .lt 14, 3) := by decide +kernel
theorem dX6_isSetOfPeople_4 : decode cX6_isSetOfPeople 4 = .ok (.iload_n 1, 1) := by decide +kernel
theorem dX6_isSetOfPeople_5 : decode cX6_isSetOfPeople 5 = .ok (.sipush 256, 3) := by decide +kernel
theorem dX6_isSetOfPeople_8 : decode cX6_isSetOfPeople 8 = .ok (.if_icmp .ge 7, 3) := by decide +kernel
theorem dX6_isSetOfPeople_11 : decode cX6_isSetOfPeople 11 = .ok (.iconst 1, 1) := by decide +kernel
theorem dX6_isSetOfPeople_12 : decode cX6_isSetOfPeople 12 = .ok (.goto 4, 3) := by decide +kernel
theorem dX6_isSetOfPeople_15 : decode cX6_isSetOfPeople 15 = .ok (.iconst 0, 1) := by decide +kernel
theorem dX6_isSetOfPeople_16 : decode cX6_isSetOfPeople 16 = .ok (.ireturn, 1) := by decide +kernel
theorem dX6_isSheet_0 : decode cX6_isSheet 0 = .ok (.iload_n 1, 1) := by decide +kernel
theorem dX6_isSheet_1 : decode cX6_isSheet 1 = .ok (.ifCond .lt 12, 3) := by decide +kernel
theorem dX6_isSheet_4 : decode cX6_isSheet 4 = .ok (.iload_n 1, 1) := by decide +kernel
theorem dX6_isSheet_5 : decode cX6_isSheet 5 = .ok (.iconst 4, 1) := by decide +kernel
theorem dX6_isSheet_6 : decode cX6_isSheet 6 = .ok (.if_icmp .ge 7, 3) := by decide +kernel
theorem dX6_isSheet_9 : decode cX6_isSheet 9 = .ok (.iconst 1, 1) := by decide +kernel
theorem dX6_isSheet_10 : decode cX6_isSheet 10 = .ok (.goto 4, 3) := by decide +kernel
theorem dX6_isSheet_13 : decode cX6_isSheet 13 = .ok (.iconst 0, 1) := by decide +kernel
theorem dX6_isSheet_14 : decode cX6_isSheet 14 = .ok (.ireturn, 1) := by decide +kernel
theorem dX6_isBits_0 : decode cX6_isBits 0 = .ok (.iload_n 1, 1) := by decide +kernel
theorem dX6_isBits_1 : decode cX6_isBits 1 = .ok (.ifCond .eq 21, 3) := by decide +kernel
theorem dX6_isBits_4 : decode cX6_isBits 4 = .ok (.iload_n 1, 1) := by decide +kernel
theorem dX6_isBits_5 : decode cX6_isBits 5 = .ok (.bipush 8, 2) := by decide +kernel
theorem dX6_isBits_7 : decode cX6_isBits 7 = .ok (.if_icmp .eq 15, 3) := by decide +kernel
theorem dX6_isBits_10 : decode cX6_isBits 10 = .ok (.iload_n 1, 1) := by decide +kernel
theorem dX6_isBits_11 : decode cX6_isBits 11 = .ok (.bipush 16, 2) := by decide +kernel
theorem dX6_isBits_13 : decode cX6_isBits 13 = .ok (.if_icmp .eq 9, 3) := by decide +kernel
theorem dX6_isBits_16 : decode cX6_isBits 16 = .ok (.iload_n 1, 1) := by decide +kernel
theorem dX6_isBits_17 : decode cX6_isBits 17 = .ok (.bipush 32, 2) := by decide +kernel
theorem dX6_isBits_19 : decode cX6_isBits 19 = .ok (.if_icmp .ne 7, 3) := by decide +kernel
theorem dX6_isBits_22 : decode cX6_isBits 22 = .ok (.iconst 1, 1) := by decide +kernel
theorem dX6_isBits_23 : decode cX6_isBits 23 = .ok (.goto 4, 3) := by decide +kernel
theorem dX6_isBits_26 : decode cX6_isBits 26 = .ok (.iconst 0, 1) := by decide +kernel
theorem dX6_isBits_27 : decode cX6_isBits 27 = .ok (.ireturn, 1) := by decide +kernel
theorem dX6_isIn_0 : decode cX6_isIn 0 = .ok (.iload_n 0, 1) := by decide +kernel
theorem dX6_isIn_1 : decode cX6_isIn 1 = .ok (.iload_n 1, 1) := by decide +kernel
theorem dX6_isIn_2 : decode cX6_isIn 2 = .ok (.ishr, 1) := by decide +kernel
theorem dX6_isIn_3 : decode cX6_isIn 3 = .ok (.iconst 1, 1) := by decide +kernel
theorem dX6_isIn_4 : decode cX6_isIn 4 = .ok (.iand, 1) := by decide +kernel
theorem dX6_isIn_5 : decode cX6_isIn 5 = .ok (.ifCond .eq 7, 3) := by decide +kernel
theorem dX6_isIn_8 : decode cX6_isIn 8 = .ok (.iconst 1, 1) := by decide +kernel
theorem dX6_isIn_9 : decode cX6_isIn 9 = .ok (.goto 4, 3) := by decide +kernel
theorem dX6_isIn_12 : decode cX6_isIn 12 = .ok (.iconst 0, 1) := by decide +kernel
theorem dX6_isIn_13 : decode cX6_isIn 13 = .ok (.ireturn, 1) := by decide +kernel
theorem dX6_isUnder_0 : decode cX6_isUnder 0 = .ok (.iload_n 0, 1) := by decide +kernel
theorem dX6_isUnder_1 : decode cX6_isUnder 1 = .ok (.istore_n 2, 1) := by decide +kernel
theorem dX6_isUnder_2 : decode cX6_isUnder 2 = .ok (.iconst 0, 1) := by decide +kernel
theorem dX6_isUnder_3 : decode cX6_isUnder 3 = .ok (.istore_n 3, 1) := by decide +kernel
theorem dX6_isUnder_4 : decode cX6_isUnder 4 = .ok (.iload_n 3, 1) := by decide +kernel
theorem dX6_isUnder_5 : decode cX6_isUnder 5 = .ok (.bipush 7, 2) := by decide +kernel
theorem dX6_isUnder_7 : decode cX6_isUnder 7 = .ok (.if_icmp .ge 26, 3) := by decide +kernel
theorem dX6_isUnder_10 : decode cX6_isUnder 10 = .ok (.iload_n 2, 1) := by decide +kernel
theorem dX6_isUnder_11 : decode cX6_isUnder 11 = .ok (.ifCond .lt 22, 3) := by decide +kernel
theorem dX6_isUnder_14 : decode cX6_isUnder 14 = .ok (.iload_n 2, 1) := by decide +kernel
theorem dX6_isUnder_15 : decode cX6_isUnder 15 = .ok (.iload_n 1, 1) := by decide +kernel
theorem dX6_isUnder_16 : decode cX6_isUnder 16 = .ok (.if_icmp .ne 5, 3) := by decide +kernel
theorem dX6_isUnder_19 : decode cX6_isUnder 19 = .ok (.iconst 1, 1) := by decide +kernel
theorem dX6_isUnder_20 : decode cX6_isUnder 20 = .ok (.ireturn, 1) := by decide +kernel
theorem dX6_isUnder_21 : decode cX6_isUnder 21 = .ok (.getstatic 306, 3) := by decide +kernel
theorem dX6_isUnder_24 : decode cX6_isUnder 24 = .ok (.iload_n 2, 1) := by decide +kernel
theorem dX6_isUnder_25 : decode cX6_isUnder 25 = .ok (.iaload, 1) := by decide +kernel
theorem dX6_isUnder_26 : decode cX6_isUnder 26 = .ok (.istore_n 2, 1) := by decide +kernel
theorem dX6_isUnder_27 : decode cX6_isUnder 27 = .ok (.iinc 3 1, 3) := by decide +kernel
theorem dX6_isUnder_30 : decode cX6_isUnder 30 = .ok (.goto (-26), 3) := by decide +kernel
theorem dX6_isUnder_33 : decode cX6_isUnder 33 = .ok (.iconst 0, 1) := by decide +kernel
theorem dX6_isUnder_34 : decode cX6_isUnder 34 = .ok (.ireturn, 1) := by decide +kernel
theorem dX6_chillText_0 : decode cX6_chillText 0 = .ok (.aload_n 0, 1) := by decide +kernel
theorem dX6_chillText_1 : decode cX6_chillText 1 = .ok (.getfield 10, 3) := by decide +kernel
theorem dX6_chillText_4 : decode cX6_chillText 4 = .ok (.aload_n 0, 1) := by decide +kernel
theorem dX6_chillText_5 : decode cX6_chillText 5 = .ok (.getfield 10, 3) := by decide +kernel
theorem dX6_chillText_8 : decode cX6_chillText 8 = .ok (.getfield 189, 3) := by decide +kernel
theorem dX6_chillText_11 : decode cX6_chillText 11 = .ok (.aload_n 0, 1) := by decide +kernel
theorem dX6_chillText_12 : decode cX6_chillText 12 = .ok (.getfield 10, 3) := by decide +kernel
theorem dX6_chillText_15 : decode cX6_chillText 15 = .ok (.getfield 144, 3) := by decide +kernel
theorem dX6_chillText_18 : decode cX6_chillText 18 = .ok (.aload_n 0, 1) := by decide +kernel
theorem dX6_chillText_19 : decode cX6_chillText 19 = .ok (.getfield 10, 3) := by decide +kernel
theorem dX6_chillText_22 : decode cX6_chillText 22 = .ok (.getfield 132, 3) := by decide +kernel
theorem dX6_chillText_25 : decode cX6_chillText 25 = .ok (.invokevirtual 302, 3) := by decide +kernel
theorem dX6_chillText_28 : decode cX6_chillText 28 = .ok (.istore_n 2, 1) := by decide +kernel
theorem dX6_chillText_29 : decode cX6_chillText 29 = .ok (.aload_n 0, 1) := by decide +kernel
theorem dX6_chillText_30 : decode cX6_chillText 30 = .ok (.getfield 10, 3) := by decide +kernel
theorem dX6_chillText_33 : decode cX6_chillText 33 = .ok (.getfield 222, 3) := by decide +kernel
theorem dX6_chillText_36 : decode cX6_chillText 36 = .ok (.iload_n 2, 1) := by decide +kernel
theorem dX6_chillText_37 : decode cX6_chillText 37 = .ok (.aload_n 0, 1) := by decide +kernel
theorem dX6_chillText_38 : decode cX6_chillText 38 = .ok (.getfield 10, 3) := by decide +kernel
theorem dX6_chillText_41 : decode cX6_chillText 41 = .ok (.getfield 62, 3) := by decide +kernel
theorem dX6_chillText_44 : decode cX6_chillText 44 = .ok (.getfield 81, 3) := by decide +kernel
theorem dX6_chillText_47 : decode cX6_chillText 47 = .ok (.iload_n 1, 1) := by decide +kernel
theorem dX6_chillText_48 : decode cX6_chillText 48 = .ok (.iaload, 1) := by decide +kernel
theorem dX6_chillText_49 : decode cX6_chillText 49 = .ok (.aload_n 0, 1) := by decide +kernel
theorem dX6_chillText_50 : decode cX6_chillText 50 = .ok (.getfield 10, 3) := by decide +kernel
theorem dX6_chillText_53 : decode cX6_chillText 53 = .ok (.getfield 62, 3) := by decide +kernel
theorem dX6_chillText_56 : decode cX6_chillText 56 = .ok (.getfield 84, 3) := by decide +kernel
theorem dX6_chillText_59 : decode cX6_chillText 59 = .ok (.iload_n 1, 1) := by decide +kernel
theorem dX6_chillText_60 : decode cX6_chillText 60 = .ok (.iaload, 1) := by decide +kernel
theorem dX6_chillText_61 : decode cX6_chillText 61 = .ok (.invokevirtual 176, 3) := by decide +kernel
theorem dX6_chillText_64 : decode cX6_chillText 64 = .ok (.ireturn, 1) := by decide +kernel
theorem dX6_foreseeColds_0 : decode cX6_foreseeColds 0 = .ok (.iconst 0, 1) := by decide +kernel
theorem dX6_foreseeColds_1 : decode cX6_foreseeColds 1 = .ok (.istore_n 3, 1) := by decide +kernel
theorem dX6_foreseeColds_2 : decode cX6_foreseeColds 2 = .ok (.iload_n 3, 1) := by decide +kernel
theorem dX6_foreseeColds_3 : decode cX6_foreseeColds 3 = .ok (.iload_n 2, 1) := by decide +kernel
theorem dX6_foreseeColds_4 : decode cX6_foreseeColds 4 = .ok (.if_icmp .ge 48, 3) := by decide +kernel
theorem dX6_foreseeColds_7 : decode cX6_foreseeColds 7 = .ok (.iload_n 3, 1) := by decide +kernel
theorem dX6_foreseeColds_8 : decode cX6_foreseeColds 8 = .ok (.aload_n 0, 1) := by decide +kernel
theorem dX6_foreseeColds_9 : decode cX6_foreseeColds 9 = .ok (.getfield 46, 3) := by decide +kernel
theorem dX6_foreseeColds_12 : decode cX6_foreseeColds 12 = .ok (.arraylength, 1) := by decide +kernel
theorem dX6_foreseeColds_13 : decode cX6_foreseeColds 13 = .ok (.if_icmp .ge 39, 3) := by decide +kernel
theorem dX6_foreseeColds_16 : decode cX6_foreseeColds 16 = .ok (.aload_n 0, 1) := by decide +kernel
theorem dX6_foreseeColds_17 : decode cX6_foreseeColds 17 = .ok (.getfield 46, 3) := by decide +kernel
theorem dX6_foreseeColds_20 : decode cX6_foreseeColds 20 = .ok (.iload_n 3, 1) := by decide +kernel
theorem dX6_foreseeColds_21 : decode cX6_foreseeColds 21 = .ok (.aload_n 0, 1) := by decide +kernel
theorem dX6_foreseeColds_22 : decode cX6_foreseeColds 22 = .ok (.getfield 10, 3) := by decide +kernel
theorem dX6_foreseeColds_25 : decode cX6_foreseeColds 25 = .ok (.aload_n 0, 1) := by decide +kernel
theorem dX6_foreseeColds_26 : decode cX6_foreseeColds 26 = .ok (.getfield 10, 3) := by decide +kernel
theorem dX6_foreseeColds_29 : decode cX6_foreseeColds 29 = .ok (.getfield 189, 3) := by decide +kernel
theorem dX6_foreseeColds_32 : decode cX6_foreseeColds 32 = .ok (.iload_n 3, 1) := by decide +kernel
theorem dX6_foreseeColds_33 : decode cX6_foreseeColds 33 = .ok (.iadd, 1) := by decide +kernel
theorem dX6_foreseeColds_34 : decode cX6_foreseeColds 34 = .ok (.iload_n 1, 1) := by decide +kernel
theorem dX6_foreseeColds_35 : decode cX6_foreseeColds 35 = .ok (.aload_n 0, 1) := by decide +kernel
theorem dX6_foreseeColds_36 : decode cX6_foreseeColds 36 = .ok (.getfield 10, 3) := by decide +kernel
theorem dX6_foreseeColds_39 : decode cX6_foreseeColds 39 = .ok (.getfield 132, 3) := by decide +kernel
theorem dX6_foreseeColds_42 : decode cX6_foreseeColds 42 = .ok (.invokevirtual 302, 3) := by decide +kernel
theorem dX6_foreseeColds_45 : decode cX6_foreseeColds 45 = .ok (.iastore, 1) := by decide +kernel
theorem dX6_foreseeColds_46 : decode cX6_foreseeColds 46 = .ok (.iinc 3 1, 3) := by decide +kernel
theorem dX6_foreseeColds_49 : decode cX6_foreseeColds 49 = .ok (.goto (-47), 3) := by decide +kernel
theorem dX6_foreseeColds_52 : decode cX6_foreseeColds 52 = .ok (.return_, 1) := by decide +kernel
theorem dX6_dayOfDeath_0 : decode cX6_dayOfDeath 0 = .ok (.aload_n 0, 1) := by decide +kernel
theorem dX6_dayOfDeath_1 : decode cX6_dayOfDeath 1 = .ok (.getfield 10, 3) := by decide +kernel
theorem dX6_dayOfDeath_4 : decode cX6_dayOfDeath 4 = .ok (.getfield 62, 3) := by decide +kernel
theorem dX6_dayOfDeath_7 : decode cX6_dayOfDeath 7 = .ok (.getfield 84, 3) := by decide +kernel
theorem dX6_dayOfDeath_10 : decode cX6_dayOfDeath 10 = .ok (.iload_n 1, 1) := by decide +kernel
theorem dX6_dayOfDeath_11 : decode cX6_dayOfDeath 11 = .ok (.iaload, 1) := by decide +kernel
theorem dX6_dayOfDeath_12 : decode cX6_dayOfDeath 12 = .ok (.istore 4, 2) := by decide +kernel
theorem dX6_dayOfDeath_14 : decode cX6_dayOfDeath 14 = .ok (.iconst 0, 1) := by decide +kernel
theorem dX6_dayOfDeath_15 : decode cX6_dayOfDeath 15 = .ok (.istore 5, 2) := by decide +kernel
theorem dX6_dayOfDeath_17 : decode cX6_dayOfDeath 17 = .ok (.iload 5, 2) := by decide +kernel
theorem dX6_dayOfDeath_19 : decode cX6_dayOfDeath 19 = .ok (.iload_n 3, 1) := by decide +kernel
theorem dX6_dayOfDeath_20 : decode cX6_dayOfDeath 20 = .ok (.if_icmp .ge 57, 3) := by decide +kernel
theorem dX6_dayOfDeath_23 : decode cX6_dayOfDeath 23 = .ok (.iload 5, 2) := by decide +kernel
theorem dX6_dayOfDeath_25 : decode cX6_dayOfDeath 25 = .ok (.aload_n 0, 1) := by decide +kernel
theorem dX6_dayOfDeath_26 : decode cX6_dayOfDeath 26 = .ok (.getfield 46, 3) := by decide +kernel
theorem dX6_dayOfDeath_29 : decode cX6_dayOfDeath 29 = .ok (.arraylength, 1) := by decide +kernel
theorem dX6_dayOfDeath_30 : decode cX6_dayOfDeath 30 = .ok (.if_icmp .ge 47, 3) := by decide +kernel
theorem dX6_dayOfDeath_33 : decode cX6_dayOfDeath 33 = .ok (.iload 4, 2) := by decide +kernel
theorem dX6_dayOfDeath_35 : decode cX6_dayOfDeath 35 = .ok (.ifCond .ne 6, 3) := by decide +kernel
theorem dX6_dayOfDeath_38 : decode cX6_dayOfDeath 38 = .ok (.iload 5, 2) := by decide +kernel
theorem dX6_dayOfDeath_40 : decode cX6_dayOfDeath 40 = .ok (.ireturn, 1) := by decide +kernel
theorem dX6_dayOfDeath_41 : decode cX6_dayOfDeath 41 = .ok (.aload_n 0, 1) := by decide +kernel
theorem dX6_dayOfDeath_42 : decode cX6_dayOfDeath 42 = .ok (.getfield 10, 3) := by decide +kernel
theorem dX6_dayOfDeath_45 : decode cX6_dayOfDeath 45 = .ok (.getfield 62, 3) := by decide +kernel
theorem dX6_dayOfDeath_48 : decode cX6_dayOfDeath 48 = .ok (.iload_n 1, 1) := by decide +kernel
theorem dX6_dayOfDeath_49 : decode cX6_dayOfDeath 49 = .ok (.iload_n 2, 1) := by decide +kernel
theorem dX6_dayOfDeath_50 : decode cX6_dayOfDeath 50 = .ok (.iload 4, 2) := by decide +kernel
theorem dX6_dayOfDeath_52 : decode cX6_dayOfDeath 52 = .ok (.aload_n 0, 1) := by decide +kernel
theorem dX6_dayOfDeath_53 : decode cX6_dayOfDeath 53 = .ok (.getfield 46, 3) := by decide +kernel
theorem dX6_dayOfDeath_56 : decode cX6_dayOfDeath 56 = .ok (.iload 5, 2) := by decide +kernel
theorem dX6_dayOfDeath_58 : decode cX6_dayOfDeath 58 = .ok (.iaload, 1) := by decide +kernel
theorem dX6_dayOfDeath_59 : decode cX6_dayOfDeath 59 = .ok (.aload_n 0, 1) := by decide +kernel
theorem dX6_dayOfDeath_60 : decode cX6_dayOfDeath 60 = .ok (.getfield 10, 3) := by decide +kernel
theorem dX6_dayOfDeath_63 : decode cX6_dayOfDeath 63 = .ok (.getfield 222, 3) := by decide +kernel
theorem dX6_dayOfDeath_66 : decode cX6_dayOfDeath 66 = .ok (.invokevirtual 309, 3) := by decide +kernel
theorem dX6_dayOfDeath_69 : decode cX6_dayOfDeath 69 = .ok (.istore 4, 2) := by decide +kernel
theorem dX6_dayOfDeath_71 : decode cX6_dayOfDeath 71 = .ok (.iinc 5 1, 3) := by decide +kernel
theorem dX6_dayOfDeath_74 : decode cX6_dayOfDeath 74 = .ok (.goto (-57), 3) := by decide +kernel
theorem dX6_dayOfDeath_77 : decode cX6_dayOfDeath 77 = .ok (.iload 4, 2) := by decide +kernel
theorem dX6_dayOfDeath_79 : decode cX6_dayOfDeath 79 = .ok (.ifCond .ne 7, 3) := by decide +kernel
theorem dX6_dayOfDeath_82 : decode cX6_dayOfDeath 82 = .ok (.iload_n 3, 1) := by decide +kernel
theorem dX6_dayOfDeath_83 : decode cX6_dayOfDeath 83 = .ok (.goto 6, 3) := by decide +kernel
theorem dX6_dayOfDeath_86 : decode cX6_dayOfDeath 86 = .ok (.iload_n 3, 1) := by decide +kernel
theorem dX6_dayOfDeath_87 : decode cX6_dayOfDeath 87 = .ok (.iconst 1, 1) := by decide +kernel
theorem dX6_dayOfDeath_88 : decode cX6_dayOfDeath 88 = .ok (.iadd, 1) := by decide +kernel
theorem dX6_dayOfDeath_89 : decode cX6_dayOfDeath 89 = .ok (.ireturn, 1) := by decide +kernel
theorem dX6_lasts_0 : decode cX6_lasts 0 = .ok (.aload_n 0, 1) := by decide +kernel
theorem dX6_lasts_1 : decode cX6_lasts 1 = .ok (.iload_n 1, 1) := by decide +kernel
theorem dX6_lasts_2 : decode cX6_lasts 2 = .ok (.iload_n 2, 1) := by decide +kernel
theorem dX6_lasts_3 : decode cX6_lasts 3 = .ok (.iload_n 3, 1) := by decide +kernel
theorem dX6_lasts_4 : decode cX6_lasts 4 = .ok (.invokevirtual 215, 3) := by decide +kernel
theorem dX6_lasts_7 : decode cX6_lasts 7 = .ok (.iload_n 3, 1) := by decide +kernel
theorem dX6_lasts_8 : decode cX6_lasts 8 = .ok (.if_icmp .le 7, 3) := by decide +kernel
theorem dX6_lasts_11 : decode cX6_lasts 11 = .ok (.iconst 1, 1) := by decide +kernel
theorem dX6_lasts_12 : decode cX6_lasts 12 = .ok (.goto 4, 3) := by decide +kernel
theorem dX6_lasts_15 : decode cX6_lasts 15 = .ok (.iconst 0, 1) := by decide +kernel
theorem dX6_lasts_16 : decode cX6_lasts 16 = .ok (.ireturn, 1) := by decide +kernel
theorem dX6_fewestSewn_0 : decode cX6_fewestSewn 0 = .ok (.aload_n 0, 1) := by decide +kernel
theorem dX6_fewestSewn_1 : decode cX6_fewestSewn 1 = .ok (.getfield 10, 3) := by decide +kernel
theorem dX6_fewestSewn_4 : decode cX6_fewestSewn 4 = .ok (.getfield 62, 3) := by decide +kernel
theorem dX6_fewestSewn_7 : decode cX6_fewestSewn 7 = .ok (.getfield 81, 3) := by decide +kernel
theorem dX6_fewestSewn_10 : decode cX6_fewestSewn 10 = .ok (.iload_n 1, 1) := by decide +kernel
theorem dX6_fewestSewn_11 : decode cX6_fewestSewn 11 = .ok (.iaload, 1) := by decide +kernel
theorem dX6_fewestSewn_12 : decode cX6_fewestSewn 12 = .ok (.istore_n 3, 1) := by decide +kernel
theorem dX6_fewestSewn_13 : decode cX6_fewestSewn 13 = .ok (.iconst 0, 1) := by decide +kernel
theorem dX6_fewestSewn_14 : decode cX6_fewestSewn 14 = .ok (.istore 4, 2) := by decide +kernel
theorem dX6_fewestSewn_16 : decode cX6_fewestSewn 16 = .ok (.iload 4, 2) := by decide +kernel
theorem dX6_fewestSewn_18 : decode cX6_fewestSewn 18 = .ok (.iload_n 3, 1) := by decide +kernel
theorem dX6_fewestSewn_19 : decode cX6_fewestSewn 19 = .ok (.if_icmp .gt 25, 3) := by decide +kernel
theorem dX6_fewestSewn_22 : decode cX6_fewestSewn 22 = .ok (.aload_n 0, 1) := by decide +kernel
theorem dX6_fewestSewn_23 : decode cX6_fewestSewn 23 = .ok (.iload_n 1, 1) := by decide +kernel
theorem dX6_fewestSewn_24 : decode cX6_fewestSewn 24 = .ok (.iload_n 3, 1) := by decide +kernel
theorem dX6_fewestSewn_25 : decode cX6_fewestSewn 25 = .ok (.iload 4, 2) := by decide +kernel
theorem dX6_fewestSewn_27 : decode cX6_fewestSewn 27 = .ok (.isub, 1) := by decide +kernel
theorem dX6_fewestSewn_28 : decode cX6_fewestSewn 28 = .ok (.iload_n 2, 1) := by decide +kernel
theorem dX6_fewestSewn_29 : decode cX6_fewestSewn 29 = .ok (.invokevirtual 211, 3) := by decide +kernel
theorem dX6_fewestSewn_32 : decode cX6_fewestSewn 32 = .ok (.ifCond .eq 6, 3) := by decide +kernel
theorem dX6_fewestSewn_35 : decode cX6_fewestSewn 35 = .ok (.iload 4, 2) := by decide +kernel
theorem dX6_fewestSewn_37 : decode cX6_fewestSewn 37 = .ok (.ireturn, 1) := by decide +kernel
theorem dX6_fewestSewn_38 : decode cX6_fewestSewn 38 = .ok (.iinc 4 1, 3) := by decide +kernel
theorem dX6_fewestSewn_41 : decode cX6_fewestSewn 41 = .ok (.goto (-25), 3) := by decide +kernel
theorem dX6_fewestSewn_44 : decode cX6_fewestSewn 44 = .ok (.iconst (-1), 1) := by decide +kernel
theorem dX6_fewestSewn_45 : decode cX6_fewestSewn 45 = .ok (.ireturn, 1) := by decide +kernel
theorem dX6_playPlan_0 : decode cX6_playPlan 0 = .ok (.aload_n 0, 1) := by decide +kernel
theorem dX6_playPlan_1 : decode cX6_playPlan 1 = .ok (.getfield 22, 3) := by decide +kernel
theorem dX6_playPlan_4 : decode cX6_playPlan 4 = .ok (.aload_n 0, 1) := by decide +kernel
theorem dX6_playPlan_5 : decode cX6_playPlan 5 = .ok (.getfield 10, 3) := by decide +kernel
theorem dX6_playPlan_8 : decode cX6_playPlan 8 = .ok (.getfield 62, 3) := by decide +kernel
theorem dX6_playPlan_11 : decode cX6_playPlan 11 = .ok (.invokevirtual 218, 3) := by decide +kernel
theorem dX6_playPlan_14 : decode cX6_playPlan 14 = .ok (.aload_n 0, 1) := by decide +kernel
theorem dX6_playPlan_15 : decode cX6_playPlan 15 = .ok (.getfield 10, 3) := by decide +kernel
theorem dX6_playPlan_18 : decode cX6_playPlan 18 = .ok (.getfield 132, 3) := by decide +kernel
theorem dX6_playPlan_21 : decode cX6_playPlan 21 = .ok (.istore 4, 2) := by decide +kernel
theorem dX6_playPlan_23 : decode cX6_playPlan 23 = .ok (.iconst 0, 1) := by decide +kernel
theorem dX6_playPlan_24 : decode cX6_playPlan 24 = .ok (.istore 5, 2) := by decide +kernel
theorem dX6_playPlan_26 : decode cX6_playPlan 26 = .ok (.iconst 0, 1) := by decide +kernel
theorem dX6_playPlan_27 : decode cX6_playPlan 27 = .ok (.istore 6, 2) := by decide +kernel
theorem dX6_playPlan_29 : decode cX6_playPlan 29 = .ok (.iload 6, 2) := by decide +kernel
theorem dX6_playPlan_31 : decode cX6_playPlan 31 = .ok (.iload_n 2, 1) := by decide +kernel
theorem dX6_playPlan_32 : decode cX6_playPlan 32 = .ok (.if_icmp .ge 153, 3) := by decide +kernel
theorem dX6_playPlan_35 : decode cX6_playPlan 35 = .ok (.iload_n 1, 1) := by decide +kernel
theorem dX6_playPlan_36 : decode cX6_playPlan 36 = .ok (.invokestatic 199, 3) := by decide +kernel
theorem dX6_playPlan_39 : decode cX6_playPlan 39 = .ok (.istore 7, 2) := by decide +kernel
theorem dX6_playPlan_41 : decode cX6_playPlan 41 = .ok (.iconst 0, 1) := by decide +kernel
theorem dX6_playPlan_42 : decode cX6_playPlan 42 = .ok (.istore 8, 2) := by decide +kernel
theorem dX6_playPlan_44 : decode cX6_playPlan 44 = .ok (.iload 8, 2) := by decide +kernel
theorem dX6_playPlan_46 : decode cX6_playPlan 46 = .ok (.aload_n 0, 1) := by decide +kernel
theorem dX6_playPlan_47 : decode cX6_playPlan 47 = .ok (.getfield 10, 3) := by decide +kernel
theorem dX6_playPlan_50 : decode cX6_playPlan 50 = .ok (.getfield 120, 3) := by decide +kernel
theorem dX6_playPlan_53 : decode cX6_playPlan 53 = .ok (.if_icmp .ge 86, 3) := by decide +kernel
theorem dX6_playPlan_56 : decode cX6_playPlan 56 = .ok (.iload_n 1, 1) := by decide +kernel
theorem dX6_playPlan_57 : decode cX6_playPlan 57 = .ok (.iload 8, 2) := by decide +kernel
theorem dX6_playPlan_59 : decode cX6_playPlan 59 = .ok (.invokestatic 135, 3) := by decide +kernel
theorem dX6_playPlan_62 : decode cX6_playPlan 62 = .ok (.ifCond .ne 6, 3) := by decide +kernel
theorem dX6_playPlan_65 : decode cX6_playPlan 65 = .ok (.goto 68, 3) := by decide +kernel
theorem dX6_playPlan_68 : decode cX6_playPlan 68 = .ok (.iinc 7 (-1), 3) := by decide +kernel
theorem dX6_playPlan_71 : decode cX6_playPlan 71 = .ok (.aload_n 0, 1) := by decide +kernel
theorem dX6_playPlan_72 : decode cX6_playPlan 72 = .ok (.iload_n 3, 1) := by decide +kernel
theorem dX6_playPlan_73 : decode cX6_playPlan 73 = .ok (.iload_n 2, 1) := by decide +kernel
theorem dX6_playPlan_74 : decode cX6_playPlan 74 = .ok (.iload 7, 2) := by decide +kernel
theorem dX6_playPlan_76 : decode cX6_playPlan 76 = .ok (.invokevirtual 237, 3) := by decide +kernel
theorem dX6_playPlan_79 : decode cX6_playPlan 79 = .ok (.iload 6, 2) := by decide +kernel
theorem dX6_playPlan_81 : decode cX6_playPlan 81 = .ok (.if_icmp .ne 52, 3) := by decide +kernel
theorem dX6_playPlan_84 : decode cX6_playPlan 84 = .ok (.aload_n 0, 1) := by decide +kernel
theorem dX6_playPlan_85 : decode cX6_playPlan 85 = .ok (.getfield 22, 3) := by decide +kernel
theorem dX6_playPlan_88 : decode cX6_playPlan 88 = .ok (.aload_n 0, 1) := by decide +kernel
theorem dX6_playPlan_89 : decode cX6_playPlan 89 = .ok (.getfield 10, 3) := by decide +kernel
theorem dX6_playPlan_92 : decode cX6_playPlan 92 = .ok (.getfield 126, 3) := by decide +kernel
theorem dX6_playPlan_95 : decode cX6_playPlan 95 = .ok (.iload 8, 2) := by decide +kernel
theorem dX6_playPlan_97 : decode cX6_playPlan 97 = .ok (.iaload, 1) := by decide +kernel
theorem dX6_playPlan_98 : decode cX6_playPlan 98 = .ok (.aload_n 0, 1) := by decide +kernel
theorem dX6_playPlan_99 : decode cX6_playPlan 99 = .ok (.getfield 10, 3) := by decide +kernel
theorem dX6_playPlan_102 : decode cX6_playPlan 102 = .ok (.getfield 123, 3) := by decide +kernel
theorem dX6_playPlan_105 : decode cX6_playPlan 105 = .ok (.iload 8, 2) := by decide +kernel
theorem dX6_playPlan_107 : decode cX6_playPlan 107 = .ok (.iaload, 1) := by decide +kernel
theorem dX6_playPlan_108 : decode cX6_playPlan 108 = .ok (.invokevirtual 141, 3) := by decide +kernel
theorem dX6_playPlan_111 : decode cX6_playPlan 111 = .ok (.ifCond .eq 15, 3) := by decide +kernel
theorem dX6_playPlan_114 : decode cX6_playPlan 114 = .ok (.iinc 5 1, 3) := by decide +kernel
theorem dX6_playPlan_117 : decode cX6_playPlan 117 = .ok (.iload 4, 2) := by decide +kernel
theorem dX6_playPlan_119 : decode cX6_playPlan 119 = .ok (.iconst 1, 1) := by decide +kernel
theorem dX6_playPlan_120 : decode cX6_playPlan 120 = .ok (.iload 8, 2) := by decide +kernel
theorem dX6_playPlan_122 : decode cX6_playPlan 122 = .ok (.ishl, 1) := by decide +kernel
theorem dX6_playPlan_123 : decode cX6_playPlan 123 = .ok (.ior, 1) := by decide +kernel
theorem dX6_playPlan_124 : decode cX6_playPlan 124 = .ok (.istore 4, 2) := by decide +kernel
theorem dX6_playPlan_126 : decode cX6_playPlan 126 = .ok (.aload_n 0, 1) := by decide +kernel
theorem dX6_playPlan_127 : decode cX6_playPlan 127 = .ok (.getfield 22, 3) := by decide +kernel
theorem dX6_playPlan_130 : decode cX6_playPlan 130 = .ok (.invokevirtual 313, 3) := by decide +kernel
theorem dX6_playPlan_133 : decode cX6_playPlan 133 = .ok (.iinc 8 1, 3) := by decide +kernel
theorem dX6_playPlan_136 : decode cX6_playPlan 136 = .ok (.goto (-92), 3) := by decide +kernel
theorem dX6_playPlan_139 : decode cX6_playPlan 139 = .ok (.aload_n 0, 1) := by decide +kernel
theorem dX6_playPlan_140 : decode cX6_playPlan 140 = .ok (.getfield 22, 3) := by decide +kernel
theorem dX6_playPlan_143 : decode cX6_playPlan 143 = .ok (.aload_n 0, 1) := by decide +kernel
theorem dX6_playPlan_144 : decode cX6_playPlan 144 = .ok (.getfield 10, 3) := by decide +kernel
theorem dX6_playPlan_147 : decode cX6_playPlan 147 = .ok (.aload_n 0, 1) := by decide +kernel
theorem dX6_playPlan_148 : decode cX6_playPlan 148 = .ok (.getfield 10, 3) := by decide +kernel
theorem dX6_playPlan_151 : decode cX6_playPlan 151 = .ok (.getfield 189, 3) := by decide +kernel
theorem dX6_playPlan_154 : decode cX6_playPlan 154 = .ok (.iload 6, 2) := by decide +kernel
theorem dX6_playPlan_156 : decode cX6_playPlan 156 = .ok (.iadd, 1) := by decide +kernel
theorem dX6_playPlan_157 : decode cX6_playPlan 157 = .ok (.aload_n 0, 1) := by decide +kernel
theorem dX6_playPlan_158 : decode cX6_playPlan 158 = .ok (.getfield 10, 3) := by decide +kernel
theorem dX6_playPlan_161 : decode cX6_playPlan 161 = .ok (.getfield 144, 3) := by decide +kernel
theorem dX6_playPlan_164 : decode cX6_playPlan 164 = .ok (.iload 4, 2) := by decide +kernel
theorem dX6_playPlan_166 : decode cX6_playPlan 166 = .ok (.invokevirtual 302, 3) := by decide +kernel
theorem dX6_playPlan_169 : decode cX6_playPlan 169 = .ok (.aload_n 0, 1) := by decide +kernel
theorem dX6_playPlan_170 : decode cX6_playPlan 170 = .ok (.getfield 10, 3) := by decide +kernel
theorem dX6_playPlan_173 : decode cX6_playPlan 173 = .ok (.getfield 222, 3) := by decide +kernel
theorem dX6_playPlan_176 : decode cX6_playPlan 176 = .ok (.invokevirtual 226, 3) := by decide +kernel
theorem dX6_playPlan_179 : decode cX6_playPlan 179 = .ok (.iinc 6 1, 3) := by decide +kernel
theorem dX6_playPlan_182 : decode cX6_playPlan 182 = .ok (.goto (-153), 3) := by decide +kernel
theorem dX6_playPlan_185 : decode cX6_playPlan 185 = .ok (.bipush 10, 2) := by decide +kernel
theorem dX6_playPlan_187 : decode cX6_playPlan 187 = .ok (.iload 5, 2) := by decide +kernel
theorem dX6_playPlan_189 : decode cX6_playPlan 189 = .ok (.imul, 1) := by decide +kernel
theorem dX6_playPlan_190 : decode cX6_playPlan 190 = .ok (.aload_n 0, 1) := by decide +kernel
theorem dX6_playPlan_191 : decode cX6_playPlan 191 = .ok (.getfield 22, 3) := by decide +kernel
theorem dX6_playPlan_194 : decode cX6_playPlan 194 = .ok (.invokevirtual 195, 3) := by decide +kernel
theorem dX6_playPlan_197 : decode cX6_playPlan 197 = .ok (.invokestatic 199, 3) := by decide +kernel
theorem dX6_playPlan_200 : decode cX6_playPlan 200 = .ok (.iadd, 1) := by decide +kernel
theorem dX6_playPlan_201 : decode cX6_playPlan 201 = .ok (.ireturn, 1) := by decide +kernel
theorem dX6_dayInRow_0 : decode cX6_dayInRow 0 = .ok (.iload_n 1, 1) := by decide +kernel
theorem dX6_dayInRow_1 : decode cX6_dayInRow 1 = .ok (.istore 4, 2) := by decide +kernel
theorem dX6_dayInRow_3 : decode cX6_dayInRow 3 = .ok (.iconst 0, 1) := by decide +kernel
theorem dX6_dayInRow_4 : decode cX6_dayInRow 4 = .ok (.istore 5, 2) := by decide +kernel
theorem dX6_dayInRow_6 : decode cX6_dayInRow 6 = .ok (.iload 5, 2) := by decide +kernel
theorem dX6_dayInRow_8 : decode cX6_dayInRow 8 = .ok (.iload_n 3, 1) := by decide +kernel
theorem dX6_dayInRow_9 : decode cX6_dayInRow 9 = .ok (.if_icmp .ge 19, 3) := by decide +kernel
theorem dX6_dayInRow_12 : decode cX6_dayInRow 12 = .ok (.iload_n 2, 1) := by decide +kernel
theorem dX6_dayInRow_13 : decode cX6_dayInRow 13 = .ok (.ifCond .le 15, 3) := by decide +kernel
theorem dX6_dayInRow_16 : decode cX6_dayInRow 16 = .ok (.iload 4, 2) := by decide +kernel
theorem dX6_dayInRow_18 : decode cX6_dayInRow 18 = .ok (.iload_n 2, 1) := by decide +kernel
theorem dX6_dayInRow_19 : decode cX6_dayInRow 19 = .ok (.idiv, 1) := by decide +kernel
theorem dX6_dayInRow_20 : decode cX6_dayInRow 20 = .ok (.istore 4, 2) := by decide +kernel
theorem dX6_dayInRow_22 : decode cX6_dayInRow 22 = .ok (.iinc 5 1, 3) := by decide +kernel
theorem dX6_dayInRow_25 : decode cX6_dayInRow 25 = .ok (.goto (-19), 3) := by decide +kernel
theorem dX6_dayInRow_28 : decode cX6_dayInRow 28 = .ok (.iload_n 2, 1) := by decide +kernel
theorem dX6_dayInRow_29 : decode cX6_dayInRow 29 = .ok (.ifCond .le 10, 3) := by decide +kernel
theorem dX6_dayInRow_32 : decode cX6_dayInRow 32 = .ok (.iload 4, 2) := by decide +kernel
theorem dX6_dayInRow_34 : decode cX6_dayInRow 34 = .ok (.iload_n 2, 1) := by decide +kernel
theorem dX6_dayInRow_35 : decode cX6_dayInRow 35 = .ok (.irem, 1) := by decide +kernel
theorem dX6_dayInRow_36 : decode cX6_dayInRow 36 = .ok (.goto 4, 3) := by decide +kernel
theorem dX6_dayInRow_39 : decode cX6_dayInRow 39 = .ok (.iconst 0, 1) := by decide +kernel
theorem dX6_dayInRow_40 : decode cX6_dayInRow 40 = .ok (.ireturn, 1) := by decide +kernel
