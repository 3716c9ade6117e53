theorem dX0_init_0 : decode cX0_init 0 = .ok (.aload_n 0, 1) := by decide +kernel
theorem dX0_init_1 : decode cX0_init 1 = .ok (.invokespecial 3, 3) := by decide +kernel
theorem dX0_init_4 : decode cX0_init 4 = .ok (.aload_n 0, 1) := by decide +kernel
theorem dX0_init_5 : decode cX0_init 5 = .ok (.bipush 8, 2) := by decide +kernel
theorem dX0_init_7 : decode cX0_init 7 = .ok (.newarray .int, 2) := by decide +kernel
theorem dX0_init_9 : decode cX0_init 9 = .ok (.putfield 9, 3) := by decide +kernel
theorem dX0_init_12 : decode cX0_init 12 = .ok (.aload_n 0, 1) := by decide +kernel
theorem dX0_init_13 : decode cX0_init 13 = .ok (.bipush 8, 2) := by decide +kernel
theorem dX0_init_15 : decode cX0_init 15 = .ok (.newarray .int, 2) := by decide +kernel
theorem dX0_init_17 : decode cX0_init 17 = .ok (.putfield 15, 3) := by decide +kernel
theorem dX0_init_20 : decode cX0_init 20 = .ok (.aload_n 0, 1) := by decide +kernel
theorem dX0_init_21 : decode cX0_init 21 = .ok (.bipush 8, 2) := by decide +kernel
theorem dX0_init_23 : decode cX0_init 23 = .ok (.newarray .int, 2) := by decide +kernel
theorem dX0_init_25 : decode cX0_init 25 = .ok (.putfield 18, 3) := by decide +kernel
theorem dX0_init_28 : decode cX0_init 28 = .ok (.aload_n 0, 1) := by decide +kernel
theorem dX0_init_29 : decode cX0_init 29 = .ok (.bipush 8, 2) := by decide +kernel
theorem dX0_init_31 : decode cX0_init 31 = .ok (.newarray .int, 2) := by decide +kernel
theorem dX0_init_33 : decode cX0_init 33 = .ok (.putfield 21, 3) := by decide +kernel
theorem dX0_init_36 : decode cX0_init 36 = .ok (.aload_n 0, 1) := by decide +kernel
theorem dX0_init_37 : decode cX0_init 37 = .ok (.bipush 8, 2) := by decide +kernel
theorem dX0_init_39 : decode cX0_init 39 = .ok (.newarray .int, 2) := by decide +kernel
theorem dX0_init_41 : decode cX0_init 41 = .ok (.putfield 24, 3) := by decide +kernel
theorem dX0_init_44 : decode cX0_init 44 = .ok (.aload_n 0, 1) := by decide +kernel
theorem dX0_init_45 : decode cX0_init 45 = .ok (.bipush 8, 2) := by decide +kernel
theorem dX0_init_47 : decode cX0_init 47 = .ok (.newarray .int, 2) := by decide +kernel
theorem dX0_init_49 : decode cX0_init 49 = .ok (.putfield 27, 3) := by decide +kernel
theorem dX0_init_52 : decode cX0_init 52 = .ok (.return_, 1) := by decide +kernel
theorem dX0_has_0 : decode cX0_has 0 = .ok (.iload_n 1, 1) := by decide +kernel
theorem dX0_has_1 : decode cX0_has 1 = .ok (.ifCond .lt 15, 3) := by decide +kernel
theorem dX0_has_4 : decode cX0_has 4 = .ok (.iload_n 1, 1) := by decide +kernel
theorem dX0_has_5 : decode cX0_has 5 = .ok (.aload_n 0, 1) := by decide +kernel
theorem dX0_has_6 : decode cX0_has 6 = .ok (.getfield 30, 3) := by decide +kernel
theorem dX0_has_9 : decode cX0_has 9 = .ok (.if_icmp .ge 7, 3) := by decide +kernel
theorem dX0_has_12 : decode cX0_has 12 = .ok (.iconst 1, 1) := by decide +kernel
theorem dX0_has_13 : decode cX0_has 13 = .ok (.goto 4, 3) := by decide +kernel
theorem dX0_has_16 : decode cX0_has 16 = .ok (.iconst 0, 1) := by decide +kernel
theorem dX0_has_17 : decode cX0_has 17 = .ok (.ireturn, 1) := by decide +kernel
theorem dX0_rowOf_0 : decode cX0_rowOf 0 = .ok (.iload_n 1, 1) := by decide +kernel
theorem dX0_rowOf_1 : decode cX0_rowOf 1 = .ok (.tableswitch 42 0 2 #[27, 32, 37], 27) := by decide +kernel
theorem dX0_rowOf_28 : decode cX0_rowOf 28 = .ok (.aload_n 0, 1) := by decide +kernel
theorem dX0_rowOf_29 : decode cX0_rowOf 29 = .ok (.getfield 18, 3) := by decide +kernel
theorem dX0_rowOf_32 : decode cX0_rowOf 32 = .ok (.areturn, 1) := by decide +kernel
theorem dX0_rowOf_33 : decode cX0_rowOf 33 = .ok (.aload_n 0, 1) := by decide +kernel
theorem dX0_rowOf_34 : decode cX0_rowOf 34 = .ok (.getfield 21, 3) := by decide +kernel
theorem dX0_rowOf_37 : decode cX0_rowOf 37 = .ok (.areturn, 1) := by decide +kernel
theorem dX0_rowOf_38 : decode cX0_rowOf 38 = .ok (.aload_n 0, 1) := by decide +kernel
theorem dX0_rowOf_39 : decode cX0_rowOf 39 = .ok (.getfield 24, 3) := by decide +kernel
theorem dX0_rowOf_42 : decode cX0_rowOf 42 = .ok (.areturn, 1) := by decide +kernel
theorem dX0_rowOf_43 : decode cX0_rowOf 43 = .ok (.aload_n 0, 1) := by decide +kernel
theorem dX0_rowOf_44 : decode cX0_rowOf 44 = .ok (.getfield 27, 3) := by decide +kernel
theorem dX0_rowOf_47 : decode cX0_rowOf 47 = .ok (.areturn, 1) := by decide +kernel
theorem dX0_copy_0 : decode cX0_copy 0 = .ok (.aload_n 0, 1) := by decide +kernel
theorem dX0_copy_1 : decode cX0_copy 1 = .ok (.aload_n 1, 1) := by decide +kernel
theorem dX0_copy_2 : decode cX0_copy 2 = .ok (.getfield 30, 3) := by decide +kernel
theorem dX0_copy_5 : decode cX0_copy 5 = .ok (.putfield 30, 3) := by decide +kernel
theorem dX0_copy_8 : decode cX0_copy 8 = .ok (.iconst 0, 1) := by decide +kernel
theorem dX0_copy_9 : decode cX0_copy 9 = .ok (.istore_n 2, 1) := by decide +kernel
theorem dX0_copy_10 : decode cX0_copy 10 = .ok (.iload_n 2, 1) := by decide +kernel
theorem dX0_copy_11 : decode cX0_copy 11 = .ok (.bipush 8, 2) := by decide +kernel
theorem dX0_copy_13 : decode cX0_copy 13 = .ok (.if_icmp .ge 81, 3) := by decide +kernel
theorem dX0_copy_16 : decode cX0_copy 16 = .ok (.aload_n 0, 1) := by decide +kernel
theorem dX0_copy_17 : decode cX0_copy 17 = .ok (.getfield 9, 3) := by decide +kernel
theorem dX0_copy_20 : decode cX0_copy 20 = .ok (.iload_n 2, 1) := by decide +kernel
theorem dX0_copy_21 : decode cX0_copy 21 = .ok (.aload_n 1, 1) := by decide +kernel
theorem dX0_copy_22 : decode cX0_copy 22 = .ok (.getfield 9, 3) := by decide +kernel
theorem dX0_copy_25 : decode cX0_copy 25 = .ok (.iload_n 2, 1) := by decide +kernel
theorem dX0_copy_26 : decode cX0_copy 26 = .ok (.iaload, 1) := by decide +kernel
theorem dX0_copy_27 : decode cX0_copy 27 = .ok (.iastore, 1) := by decide +kernel
theorem dX0_copy_28 : decode cX0_copy 28 = .ok (.aload_n 0, 1) := by decide +kernel
theorem dX0_copy_29 : decode cX0_copy 29 = .ok (.getfield 15, 3) := by decide +kernel
theorem dX0_copy_32 : decode cX0_copy 32 = .ok (.iload_n 2, 1) := by decide +kernel
theorem dX0_copy_33 : decode cX0_copy 33 = .ok (.aload_n 1, 1) := by decide +kernel
theorem dX0_copy_34 : decode cX0_copy 34 = .ok (.getfield 15, 3) := by decide +kernel
theorem dX0_copy_37 : decode cX0_copy 37 = .ok (.iload_n 2, 1) := by decide +kernel
theorem dX0_copy_38 : decode cX0_copy 38 = .ok (.iaload, 1) := by decide +kernel
theorem dX0_copy_39 : decode cX0_copy 39 = .ok (.iastore, 1) := by decide +kernel
theorem dX0_copy_40 : decode cX0_copy 40 = .ok (.aload_n 0, 1) := by decide +kernel
theorem dX0_copy_41 : decode cX0_copy 41 = .ok (.getfield 18, 3) := by decide +kernel
theorem dX0_copy_44 : decode cX0_copy 44 = .ok (.iload_n 2, 1) := by decide +kernel
theorem dX0_copy_45 : decode cX0_copy 45 = .ok (.aload_n 1, 1) := by decide +kernel
theorem dX0_copy_46 : decode cX0_copy 46 = .ok (.getfield 18, 3) := by decide +kernel
theorem dX0_copy_49 : decode cX0_copy 49 = .ok (.iload_n 2, 1) := by decide +kernel
theorem dX0_copy_50 : decode cX0_copy 50 = .ok (.iaload, 1) := by decide +kernel
theorem dX0_copy_51 : decode cX0_copy 51 = .ok (.iastore, 1) := by decide +kernel
theorem dX0_copy_52 : decode cX0_copy 52 = .ok (.aload_n 0, 1) := by decide +kernel
theorem dX0_copy_53 : decode cX0_copy 53 = .ok (.getfield 21, 3) := by decide +kernel
theorem dX0_copy_56 : decode cX0_copy 56 = .ok (.iload_n 2, 1) := by decide +kernel
theorem dX0_copy_57 : decode cX0_copy 57 = .ok (.aload_n 1, 1) := by decide +kernel
theorem dX0_copy_58 : decode cX0_copy 58 = .ok (.getfield 21, 3) := by decide +kernel
theorem dX0_copy_61 : decode cX0_copy 61 = .ok (.iload_n 2, 1) := by decide +kernel
theorem dX0_copy_62 : decode cX0_copy 62 = .ok (.iaload, 1) := by decide +kernel
theorem dX0_copy_63 : decode cX0_copy 63 = .ok (.iastore, 1) := by decide +kernel
theorem dX0_copy_64 : decode cX0_copy 64 = .ok (.aload_n 0, 1) := by decide +kernel
theorem dX0_copy_65 : decode cX0_copy 65 = .ok (.getfield 24, 3) := by decide +kernel
theorem dX0_copy_68 : decode cX0_copy 68 = .ok (.iload_n 2, 1) := by decide +kernel
theorem dX0_copy_69 : decode cX0_copy 69 = .ok (.aload_n 1, 1) := by decide +kernel
theorem dX0_copy_70 : decode cX0_copy 70 = .ok (.getfield 24, 3) := by decide +kernel
theorem dX0_copy_73 : decode cX0_copy 73 = .ok (.iload_n 2, 1) := by decide +kernel
theorem dX0_copy_74 : decode cX0_copy 74 = .ok (.iaload, 1) := by decide +kernel
theorem dX0_copy_75 : decode cX0_copy 75 = .ok (.iastore, 1) := by decide +kernel
theorem dX0_copy_76 : decode cX0_copy 76 = .ok (.aload_n 0, 1) := by decide +kernel
theorem dX0_copy_77 : decode cX0_copy 77 = .ok (.getfield 27, 3) := by decide +kernel
theorem dX0_copy_80 : decode cX0_copy 80 = .ok (.iload_n 2, 1) := by decide +kernel
theorem dX0_copy_81 : decode cX0_copy 81 = .ok (.aload_n 1, 1) := by decide +kernel
theorem dX0_copy_82 : decode cX0_copy 82 = .ok (.getfield 27, 3) := by decide +kernel
theorem dX0_copy_85 : decode cX0_copy 85 = .ok (.iload_n 2, 1) := by decide +kernel
theorem dX0_copy_86 : decode cX0_copy 86 = .ok (.iaload, 1) := by decide +kernel
theorem dX0_copy_87 : decode cX0_copy 87 = .ok (.iastore, 1) := by decide +kernel
theorem dX0_copy_88 : decode cX0_copy 88 = .ok (.iinc 2 1, 3) := by decide +kernel
theorem dX0_copy_91 : decode cX0_copy 91 = .ok (.goto (-81), 3) := by decide +kernel
theorem dX0_copy_94 : decode cX0_copy 94 = .ok (.return_, 1) := by decide +kernel
theorem dX0_isWilling_0 : decode cX0_isWilling 0 = .ok (.aload_n 0, 1) := by decide +kernel
theorem dX0_isWilling_1 : decode cX0_isWilling 1 = .ok (.getfield 27, 3) := by decide +kernel
theorem dX0_isWilling_4 : decode cX0_isWilling 4 = .ok (.iload_n 1, 1) := by decide +kernel
theorem dX0_isWilling_5 : decode cX0_isWilling 5 = .ok (.iaload, 1) := by decide +kernel
theorem dX0_isWilling_6 : decode cX0_isWilling 6 = .ok (.getstatic 34, 3) := by decide +kernel
theorem dX0_isWilling_9 : decode cX0_isWilling 9 = .ok (.aload_n 0, 1) := by decide +kernel
theorem dX0_isWilling_10 : decode cX0_isWilling 10 = .ok (.getfield 9, 3) := by decide +kernel
theorem dX0_isWilling_13 : decode cX0_isWilling 13 = .ok (.iload_n 1, 1) := by decide +kernel
theorem dX0_isWilling_14 : decode cX0_isWilling 14 = .ok (.iaload, 1) := by decide +kernel
theorem dX0_isWilling_15 : decode cX0_isWilling 15 = .ok (.iaload, 1) := by decide +kernel
theorem dX0_isWilling_16 : decode cX0_isWilling 16 = .ok (.ifCond .ne 8, 3) := by decide +kernel
theorem dX0_isWilling_19 : decode cX0_isWilling 19 = .ok (.bipush 30, 2) := by decide +kernel
theorem dX0_isWilling_21 : decode cX0_isWilling 21 = .ok (.goto 4, 3) := by decide +kernel
theorem dX0_isWilling_24 : decode cX0_isWilling 24 = .ok (.iconst 1, 1) := by decide +kernel
theorem dX0_isWilling_25 : decode cX0_isWilling 25 = .ok (.if_icmp .lt 7, 3) := by decide +kernel
theorem dX0_isWilling_28 : decode cX0_isWilling 28 = .ok (.iconst 1, 1) := by decide +kernel
theorem dX0_isWilling_29 : decode cX0_isWilling 29 = .ok (.goto 4, 3) := by decide +kernel
theorem dX0_isWilling_32 : decode cX0_isWilling 32 = .ok (.iconst 0, 1) := by decide +kernel
theorem dX0_isWilling_33 : decode cX0_isWilling 33 = .ok (.ireturn, 1) := by decide +kernel
theorem dX0_cutsHorn_0 : decode cX0_cutsHorn 0 = .ok (.aload_n 0, 1) := by decide +kernel
theorem dX0_cutsHorn_1 : decode cX0_cutsHorn 1 = .ok (.iload_n 1, 1) := by decide +kernel
theorem dX0_cutsHorn_2 : decode cX0_cutsHorn 2 = .ok (.invokevirtual 37, 3) := by decide +kernel
theorem dX0_cutsHorn_5 : decode cX0_cutsHorn 5 = .ok (.ifCond .ne 5, 3) := by decide +kernel
theorem dX0_cutsHorn_8 : decode cX0_cutsHorn 8 = .ok (.iconst 0, 1) := by decide +kernel
theorem dX0_cutsHorn_9 : decode cX0_cutsHorn 9 = .ok (.ireturn, 1) := by decide +kernel
theorem dX0_cutsHorn_10 : decode cX0_cutsHorn 10 = .ok (.getstatic 41, 3) := by decide +kernel
theorem dX0_cutsHorn_13 : decode cX0_cutsHorn 13 = .ok (.aload_n 0, 1) := by decide +kernel
theorem dX0_cutsHorn_14 : decode cX0_cutsHorn 14 = .ok (.getfield 9, 3) := by decide +kernel
theorem dX0_cutsHorn_17 : decode cX0_cutsHorn 17 = .ok (.iload_n 1, 1) := by decide +kernel
theorem dX0_cutsHorn_18 : decode cX0_cutsHorn 18 = .ok (.iaload, 1) := by decide +kernel
theorem dX0_cutsHorn_19 : decode cX0_cutsHorn 19 = .ok (.iaload, 1) := by decide +kernel
theorem dX0_cutsHorn_20 : decode cX0_cutsHorn 20 = .ok (.istore_n 2, 1) := by decide +kernel
theorem dX0_cutsHorn_21 : decode cX0_cutsHorn 21 = .ok (.getstatic 34, 3) := by decide +kernel
theorem dX0_cutsHorn_24 : decode cX0_cutsHorn 24 = .ok (.aload_n 0, 1) := by decide +kernel
theorem dX0_cutsHorn_25 : decode cX0_cutsHorn 25 = .ok (.getfield 9, 3) := by decide +kernel
theorem dX0_cutsHorn_28 : decode cX0_cutsHorn 28 = .ok (.iload_n 1, 1) := by decide +kernel
theorem dX0_cutsHorn_29 : decode cX0_cutsHorn 29 = .ok (.iaload, 1) := by decide +kernel
theorem dX0_cutsHorn_30 : decode cX0_cutsHorn 30 = .ok (.iaload, 1) := by decide +kernel
theorem dX0_cutsHorn_31 : decode cX0_cutsHorn 31 = .ok (.iconst 3, 1) := by decide +kernel
theorem dX0_cutsHorn_32 : decode cX0_cutsHorn 32 = .ok (.if_icmp .ne 16, 3) := by decide +kernel
theorem dX0_cutsHorn_35 : decode cX0_cutsHorn 35 = .ok (.iload_n 2, 1) := by decide +kernel
theorem dX0_cutsHorn_36 : decode cX0_cutsHorn 36 = .ok (.iload_n 2, 1) := by decide +kernel
theorem dX0_cutsHorn_37 : decode cX0_cutsHorn 37 = .ok (.aload_n 0, 1) := by decide +kernel
theorem dX0_cutsHorn_38 : decode cX0_cutsHorn 38 = .ok (.getfield 21, 3) := by decide +kernel
theorem dX0_cutsHorn_41 : decode cX0_cutsHorn 41 = .ok (.iload_n 1, 1) := by decide +kernel
theorem dX0_cutsHorn_42 : decode cX0_cutsHorn 42 = .ok (.iaload, 1) := by decide +kernel
theorem dX0_cutsHorn_43 : decode cX0_cutsHorn 43 = .ok (.invokestatic 44, 3) := by decide +kernel
theorem dX0_cutsHorn_46 : decode cX0_cutsHorn 46 = .ok (.isub, 1) := by decide +kernel
theorem dX0_cutsHorn_47 : decode cX0_cutsHorn 47 = .ok (.istore_n 2, 1) := by decide +kernel
theorem dX0_cutsHorn_48 : decode cX0_cutsHorn 48 = .ok (.iload_n 2, 1) := by decide +kernel
theorem dX0_cutsHorn_49 : decode cX0_cutsHorn 49 = .ok (.aload_n 0, 1) := by decide +kernel
theorem dX0_cutsHorn_50 : decode cX0_cutsHorn 50 = .ok (.getfield 18, 3) := by decide +kernel
theorem dX0_cutsHorn_53 : decode cX0_cutsHorn 53 = .ok (.iload_n 1, 1) := by decide +kernel
theorem dX0_cutsHorn_54 : decode cX0_cutsHorn 54 = .ok (.iaload, 1) := by decide +kernel
theorem dX0_cutsHorn_55 : decode cX0_cutsHorn 55 = .ok (.invokestatic 44, 3) := by decide +kernel
theorem dX0_cutsHorn_58 : decode cX0_cutsHorn 58 = .ok (.ireturn, 1) := by decide +kernel
theorem dX0_cutsBrass_0 : decode cX0_cutsBrass 0 = .ok (.aload_n 0, 1) := by decide +kernel
theorem dX0_cutsBrass_1 : decode cX0_cutsBrass 1 = .ok (.iload_n 1, 1) := by decide +kernel
theorem dX0_cutsBrass_2 : decode cX0_cutsBrass 2 = .ok (.invokevirtual 37, 3) := by decide +kernel
theorem dX0_cutsBrass_5 : decode cX0_cutsBrass 5 = .ok (.ifCond .ne 5, 3) := by decide +kernel
theorem dX0_cutsBrass_8 : decode cX0_cutsBrass 8 = .ok (.iconst 0, 1) := by decide +kernel
theorem dX0_cutsBrass_9 : decode cX0_cutsBrass 9 = .ok (.ireturn, 1) := by decide +kernel
theorem dX0_cutsBrass_10 : decode cX0_cutsBrass 10 = .ok (.getstatic 41, 3) := by decide +kernel
theorem dX0_cutsBrass_13 : decode cX0_cutsBrass 13 = .ok (.aload_n 0, 1) := by decide +kernel
theorem dX0_cutsBrass_14 : decode cX0_cutsBrass 14 = .ok (.getfield 9, 3) := by decide +kernel
theorem dX0_cutsBrass_17 : decode cX0_cutsBrass 17 = .ok (.iload_n 1, 1) := by decide +kernel
theorem dX0_cutsBrass_18 : decode cX0_cutsBrass 18 = .ok (.iaload, 1) := by decide +kernel
theorem dX0_cutsBrass_19 : decode cX0_cutsBrass 19 = .ok (.iaload, 1) := by decide +kernel
theorem dX0_cutsBrass_20 : decode cX0_cutsBrass 20 = .ok (.istore_n 2, 1) := by decide +kernel
theorem dX0_cutsBrass_21 : decode cX0_cutsBrass 21 = .ok (.getstatic 34, 3) := by decide +kernel
theorem dX0_cutsBrass_24 : decode cX0_cutsBrass 24 = .ok (.aload_n 0, 1) := by decide +kernel
theorem dX0_cutsBrass_25 : decode cX0_cutsBrass 25 = .ok (.getfield 9, 3) := by decide +kernel
theorem dX0_cutsBrass_28 : decode cX0_cutsBrass 28 = .ok (.iload_n 1, 1) := by decide +kernel
theorem dX0_cutsBrass_29 : decode cX0_cutsBrass 29 = .ok (.iaload, 1) := by decide +kernel
theorem dX0_cutsBrass_30 : decode cX0_cutsBrass 30 = .ok (.iaload, 1) := by decide +kernel
theorem dX0_cutsBrass_31 : decode cX0_cutsBrass 31 = .ok (.iconst 3, 1) := by decide +kernel
theorem dX0_cutsBrass_32 : decode cX0_cutsBrass 32 = .ok (.if_icmp .eq 16, 3) := by decide +kernel
theorem dX0_cutsBrass_35 : decode cX0_cutsBrass 35 = .ok (.iload_n 2, 1) := by decide +kernel
theorem dX0_cutsBrass_36 : decode cX0_cutsBrass 36 = .ok (.iload_n 2, 1) := by decide +kernel
theorem dX0_cutsBrass_37 : decode cX0_cutsBrass 37 = .ok (.aload_n 0, 1) := by decide +kernel
theorem dX0_cutsBrass_38 : decode cX0_cutsBrass 38 = .ok (.getfield 18, 3) := by decide +kernel
theorem dX0_cutsBrass_41 : decode cX0_cutsBrass 41 = .ok (.iload_n 1, 1) := by decide +kernel
theorem dX0_cutsBrass_42 : decode cX0_cutsBrass 42 = .ok (.iaload, 1) := by decide +kernel
theorem dX0_cutsBrass_43 : decode cX0_cutsBrass 43 = .ok (.invokestatic 44, 3) := by decide +kernel
theorem dX0_cutsBrass_46 : decode cX0_cutsBrass 46 = .ok (.isub, 1) := by decide +kernel
theorem dX0_cutsBrass_47 : decode cX0_cutsBrass 47 = .ok (.istore_n 2, 1) := by decide +kernel
theorem dX0_cutsBrass_48 : decode cX0_cutsBrass 48 = .ok (.iload_n 2, 1) := by decide +kernel
theorem dX0_cutsBrass_49 : decode cX0_cutsBrass 49 = .ok (.aload_n 0, 1) := by decide +kernel
theorem dX0_cutsBrass_50 : decode cX0_cutsBrass 50 = .ok (.getfield 21, 3) := by decide +kernel
theorem dX0_cutsBrass_53 : decode cX0_cutsBrass 53 = .ok (.iload_n 1, 1) := by decide +kernel
theorem dX0_cutsBrass_54 : decode cX0_cutsBrass 54 = .ok (.iaload, 1) := by decide +kernel
theorem dX0_cutsBrass_55 : decode cX0_cutsBrass 55 = .ok (.invokestatic 44, 3) := by decide +kernel
theorem dX0_cutsBrass_58 : decode cX0_cutsBrass 58 = .ok (.ireturn, 1) := by decide +kernel
theorem dX0_counts_0 : decode cX0_counts 0 = .ok (.aload_n 0, 1) := by decide +kernel
theorem dX0_counts_1 : decode cX0_counts 1 = .ok (.iload_n 1, 1) := by decide +kernel
theorem dX0_counts_2 : decode cX0_counts 2 = .ok (.invokevirtual 37, 3) := by decide +kernel
theorem dX0_counts_5 : decode cX0_counts 5 = .ok (.ifCond .ne 5, 3) := by decide +kernel
theorem dX0_counts_8 : decode cX0_counts 8 = .ok (.iconst 0, 1) := by decide +kernel
theorem dX0_counts_9 : decode cX0_counts 9 = .ok (.ireturn, 1) := by decide +kernel
theorem dX0_counts_10 : decode cX0_counts 10 = .ok (.getstatic 34, 3) := by decide +kernel
theorem dX0_counts_13 : decode cX0_counts 13 = .ok (.aload_n 0, 1) := by decide +kernel
theorem dX0_counts_14 : decode cX0_counts 14 = .ok (.getfield 9, 3) := by decide +kernel
theorem dX0_counts_17 : decode cX0_counts 17 = .ok (.iload_n 1, 1) := by decide +kernel
theorem dX0_counts_18 : decode cX0_counts 18 = .ok (.iaload, 1) := by decide +kernel
theorem dX0_counts_19 : decode cX0_counts 19 = .ok (.iaload, 1) := by decide +kernel
theorem dX0_counts_20 : decode cX0_counts 20 = .ok (.iconst 2, 1) := by decide +kernel
theorem dX0_counts_21 : decode cX0_counts 21 = .ok (.if_icmp .ne 39, 3) := by decide +kernel
theorem dX0_counts_24 : decode cX0_counts 24 = .ok (.aload_n 0, 1) := by decide +kernel
theorem dX0_counts_25 : decode cX0_counts 25 = .ok (.getfield 15, 3) := by decide +kernel
theorem dX0_counts_28 : decode cX0_counts 28 = .ok (.iload_n 1, 1) := by decide +kernel
theorem dX0_counts_29 : decode cX0_counts 29 = .ok (.iaload, 1) := by decide +kernel
theorem dX0_counts_30 : decode cX0_counts 30 = .ok (.iconst 2, 1) := by decide +kernel
theorem dX0_counts_31 : decode cX0_counts 31 = .ok (.irem, 1) := by decide +kernel
theorem dX0_counts_32 : decode cX0_counts 32 = .ok (.aload_n 0, 1) := by decide +kernel
theorem dX0_counts_33 : decode cX0_counts 33 = .ok (.getfield 9, 3) := by decide +kernel
theorem dX0_counts_36 : decode cX0_counts 36 = .ok (.iload_n 1, 1) := by decide +kernel
theorem dX0_counts_37 : decode cX0_counts 37 = .ok (.iaload, 1) := by decide +kernel
theorem dX0_counts_38 : decode cX0_counts 38 = .ok (.iconst 5, 1) := by decide +kernel
theorem dX0_counts_39 : decode cX0_counts 39 = .ok (.if_icmp .ne 18, 3) := by decide +kernel
theorem dX0_counts_42 : decode cX0_counts 42 = .ok (.aload_n 0, 1) := by decide +kernel
theorem dX0_counts_43 : decode cX0_counts 43 = .ok (.getfield 27, 3) := by decide +kernel
theorem dX0_counts_46 : decode cX0_counts 46 = .ok (.iload_n 1, 1) := by decide +kernel
theorem dX0_counts_47 : decode cX0_counts 47 = .ok (.iaload, 1) := by decide +kernel
theorem dX0_counts_48 : decode cX0_counts 48 = .ok (.bipush 50, 2) := by decide +kernel
theorem dX0_counts_50 : decode cX0_counts 50 = .ok (.if_icmp .ge 7, 3) := by decide +kernel
theorem dX0_counts_53 : decode cX0_counts 53 = .ok (.iconst 1, 1) := by decide +kernel
theorem dX0_counts_54 : decode cX0_counts 54 = .ok (.goto 4, 3) := by decide +kernel
theorem dX0_counts_57 : decode cX0_counts 57 = .ok (.iconst 0, 1) := by decide +kernel
theorem dX0_counts_58 : decode cX0_counts 58 = .ok (.iadd, 1) := by decide +kernel
theorem dX0_counts_59 : decode cX0_counts 59 = .ok (.ireturn, 1) := by decide +kernel
theorem dX0_counts_60 : decode cX0_counts 60 = .ok (.aload_n 0, 1) := by decide +kernel
theorem dX0_counts_61 : decode cX0_counts 61 = .ok (.iload_n 1, 1) := by decide +kernel
theorem dX0_counts_62 : decode cX0_counts 62 = .ok (.invokevirtual 50, 3) := by decide +kernel
theorem dX0_counts_65 : decode cX0_counts 65 = .ok (.aload_n 0, 1) := by decide +kernel
theorem dX0_counts_66 : decode cX0_counts 66 = .ok (.iload_n 1, 1) := by decide +kernel
theorem dX0_counts_67 : decode cX0_counts 67 = .ok (.invokevirtual 54, 3) := by decide +kernel
theorem dX0_counts_70 : decode cX0_counts 70 = .ok (.aload_n 0, 1) := by decide +kernel
theorem dX0_counts_71 : decode cX0_counts 71 = .ok (.getfield 9, 3) := by decide +kernel
theorem dX0_counts_74 : decode cX0_counts 74 = .ok (.iload_n 1, 1) := by decide +kernel
theorem dX0_counts_75 : decode cX0_counts 75 = .ok (.iaload, 1) := by decide +kernel
theorem dX0_counts_76 : decode cX0_counts 76 = .ok (.iconst 4, 1) := by decide +kernel
theorem dX0_counts_77 : decode cX0_counts 77 = .ok (.if_icmp .ne 7, 3) := by decide +kernel
theorem dX0_counts_80 : decode cX0_counts 80 = .ok (.iconst 5, 1) := by decide +kernel
theorem dX0_counts_81 : decode cX0_counts 81 = .ok (.goto 4, 3) := by decide +kernel
theorem dX0_counts_84 : decode cX0_counts 84 = .ok (.iconst 3, 1) := by decide +kernel
theorem dX0_counts_85 : decode cX0_counts 85 = .ok (.imul, 1) := by decide +kernel
theorem dX0_counts_86 : decode cX0_counts 86 = .ok (.iadd, 1) := by decide +kernel
theorem dX0_counts_87 : decode cX0_counts 87 = .ok (.ireturn, 1) := by decide +kernel
theorem dX0_chillOf_0 : decode cX0_chillOf 0 = .ok (.aload_n 0, 1) := by decide +kernel
theorem dX0_chillOf_1 : decode cX0_chillOf 1 = .ok (.getfield 9, 3) := by decide +kernel
theorem dX0_chillOf_4 : decode cX0_chillOf 4 = .ok (.iload_n 1, 1) := by decide +kernel
theorem dX0_chillOf_5 : decode cX0_chillOf 5 = .ok (.iaload, 1) := by decide +kernel
theorem dX0_chillOf_6 : decode cX0_chillOf 6 = .ok (.tableswitch 72 1 5 #[34, 53, 72, 38, 57], 34) := by decide +kernel
theorem dX0_chillOf_40 : decode cX0_chillOf 40 = .ok (.iload_n 2, 1) := by decide +kernel
theorem dX0_chillOf_41 : decode cX0_chillOf 41 = .ok (.iconst 2, 1) := by decide +kernel
theorem dX0_chillOf_42 : decode cX0_chillOf 42 = .ok (.idiv, 1) := by decide +kernel
theorem dX0_chillOf_43 : decode cX0_chillOf 43 = .ok (.ireturn, 1) := by decide +kernel
theorem dX0_chillOf_44 : decode cX0_chillOf 44 = .ok (.iconst 0, 1) := by decide +kernel
theorem dX0_chillOf_45 : decode cX0_chillOf 45 = .ok (.iload_n 2, 1) := by decide +kernel
theorem dX0_chillOf_46 : decode cX0_chillOf 46 = .ok (.iconst 2, 1) := by decide +kernel
theorem dX0_chillOf_47 : decode cX0_chillOf 47 = .ok (.idiv, 1) := by decide +kernel
theorem dX0_chillOf_48 : decode cX0_chillOf 48 = .ok (.aload_n 0, 1) := by decide +kernel
theorem dX0_chillOf_49 : decode cX0_chillOf 49 = .ok (.getfield 15, 3) := by decide +kernel
theorem dX0_chillOf_52 : decode cX0_chillOf 52 = .ok (.iload_n 1, 1) := by decide +kernel
theorem dX0_chillOf_53 : decode cX0_chillOf 53 = .ok (.iaload, 1) := by decide +kernel
theorem dX0_chillOf_54 : decode cX0_chillOf 54 = .ok (.isub, 1) := by decide +kernel
theorem dX0_chillOf_55 : decode cX0_chillOf 55 = .ok (.invokestatic 57, 3) := by decide +kernel
theorem dX0_chillOf_58 : decode cX0_chillOf 58 = .ok (.ireturn, 1) := by decide +kernel
theorem dX0_chillOf_59 : decode cX0_chillOf 59 = .ok (.iload_n 2, 1) := by decide +kernel
theorem dX0_chillOf_60 : decode cX0_chillOf 60 = .ok (.iconst 2, 1) := by decide +kernel
theorem dX0_chillOf_61 : decode cX0_chillOf 61 = .ok (.iadd, 1) := by decide +kernel
theorem dX0_chillOf_62 : decode cX0_chillOf 62 = .ok (.ireturn, 1) := by decide +kernel
theorem dX0_chillOf_63 : decode cX0_chillOf 63 = .ok (.iconst 0, 1) := by decide +kernel
theorem dX0_chillOf_64 : decode cX0_chillOf 64 = .ok (.iload_n 2, 1) := by decide +kernel
theorem dX0_chillOf_65 : decode cX0_chillOf 65 = .ok (.iconst 2, 1) := by decide +kernel
theorem dX0_chillOf_66 : decode cX0_chillOf 66 = .ok (.iadd, 1) := by decide +kernel
theorem dX0_chillOf_67 : decode cX0_chillOf 67 = .ok (.aload_n 0, 1) := by decide +kernel
theorem dX0_chillOf_68 : decode cX0_chillOf 68 = .ok (.getfield 15, 3) := by decide +kernel
theorem dX0_chillOf_71 : decode cX0_chillOf 71 = .ok (.iload_n 1, 1) := by decide +kernel
theorem dX0_chillOf_72 : decode cX0_chillOf 72 = .ok (.iaload, 1) := by decide +kernel
theorem dX0_chillOf_73 : decode cX0_chillOf 73 = .ok (.isub, 1) := by decide +kernel
theorem dX0_chillOf_74 : decode cX0_chillOf 74 = .ok (.invokestatic 57, 3) := by decide +kernel
theorem dX0_chillOf_77 : decode cX0_chillOf 77 = .ok (.ireturn, 1) := by decide +kernel
theorem dX0_chillOf_78 : decode cX0_chillOf 78 = .ok (.iload_n 2, 1) := by decide +kernel
theorem dX0_chillOf_79 : decode cX0_chillOf 79 = .ok (.ireturn, 1) := by decide +kernel
theorem dX0_countsOf_0 : decode cX0_countsOf 0 = .ok (.iconst 0, 1) := by decide +kernel
theorem dX0_countsOf_1 : decode cX0_countsOf 1 = .ok (.istore_n 2, 1) := by decide +kernel
theorem dX0_countsOf_2 : decode cX0_countsOf 2 = .ok (.iconst 0, 1) := by decide +kernel
theorem dX0_countsOf_3 : decode cX0_countsOf 3 = .ok (.istore_n 3, 1) := by decide +kernel
theorem dX0_countsOf_4 : decode cX0_countsOf 4 = .ok (.iload_n 3, 1) := by decide +kernel
theorem dX0_countsOf_5 : decode cX0_countsOf 5 = .ok (.aload_n 0, 1) := by decide +kernel
theorem dX0_countsOf_6 : decode cX0_countsOf 6 = .ok (.getfield 30, 3) := by decide +kernel
theorem dX0_countsOf_9 : decode cX0_countsOf 9 = .ok (.if_icmp .ge 25, 3) := by decide +kernel
theorem dX0_countsOf_12 : decode cX0_countsOf 12 = .ok (.iload_n 1, 1) := by decide +kernel
theorem dX0_countsOf_13 : decode cX0_countsOf 13 = .ok (.iload_n 3, 1) := by decide +kernel
theorem dX0_countsOf_14 : decode cX0_countsOf 14 = .ok (.invokestatic 60, 3) := by decide +kernel
theorem dX0_countsOf_17 : decode cX0_countsOf 17 = .ok (.ifCond .eq 11, 3) := by decide +kernel
theorem dX0_countsOf_20 : decode cX0_countsOf 20 = .ok (.iload_n 2, 1) := by decide +kernel
theorem dX0_countsOf_21 : decode cX0_countsOf 21 = .ok (.aload_n 0, 1) := by decide +kernel
theorem dX0_countsOf_22 : decode cX0_countsOf 22 = .ok (.iload_n 3, 1) := by decide +kernel
theorem dX0_countsOf_23 : decode cX0_countsOf 23 = .ok (.invokevirtual 64, 3) := by decide +kernel
theorem dX0_countsOf_26 : decode cX0_countsOf 26 = .ok (.iadd, 1) := by decide +kernel
theorem dX0_countsOf_27 : decode cX0_countsOf 27 = .ok (.istore_n 2, 1) := by decide +kernel
theorem dX0_countsOf_28 : decode cX0_countsOf 28 = .ok (.iinc 3 1, 3) := by decide +kernel
theorem dX0_countsOf_31 : decode cX0_countsOf 31 = .ok (.goto (-27), 3) := by decide +kernel
theorem dX0_countsOf_34 : decode cX0_countsOf 34 = .ok (.iload_n 2, 1) := by decide +kernel
theorem dX0_countsOf_35 : decode cX0_countsOf 35 = .ok (.ireturn, 1) := by decide +kernel
theorem dX0_hornOf_0 : decode cX0_hornOf 0 = .ok (.iconst 0, 1) := by decide +kernel
theorem dX0_hornOf_1 : decode cX0_hornOf 1 = .ok (.istore_n 2, 1) := by decide +kernel
theorem dX0_hornOf_2 : decode cX0_hornOf 2 = .ok (.iconst 0, 1) := by decide +kernel
theorem dX0_hornOf_3 : decode cX0_hornOf 3 = .ok (.istore_n 3, 1) := by decide +kernel
theorem dX0_hornOf_4 : decode cX0_hornOf 4 = .ok (.iload_n 3, 1) := by decide +kernel
theorem dX0_hornOf_5 : decode cX0_hornOf 5 = .ok (.aload_n 0, 1) := by decide +kernel
theorem dX0_hornOf_6 : decode cX0_hornOf 6 = .ok (.getfield 30, 3) := by decide +kernel
theorem dX0_hornOf_9 : decode cX0_hornOf 9 = .ok (.if_icmp .ge 25, 3) := by decide +kernel
theorem dX0_hornOf_12 : decode cX0_hornOf 12 = .ok (.iload_n 1, 1) := by decide +kernel
theorem dX0_hornOf_13 : decode cX0_hornOf 13 = .ok (.iload_n 3, 1) := by decide +kernel
theorem dX0_hornOf_14 : decode cX0_hornOf 14 = .ok (.invokestatic 60, 3) := by decide +kernel
theorem dX0_hornOf_17 : decode cX0_hornOf 17 = .ok (.ifCond .eq 11, 3) := by decide +kernel
theorem dX0_hornOf_20 : decode cX0_hornOf 20 = .ok (.iload_n 2, 1) := by decide +kernel
theorem dX0_hornOf_21 : decode cX0_hornOf 21 = .ok (.aload_n 0, 1) := by decide +kernel
theorem dX0_hornOf_22 : decode cX0_hornOf 22 = .ok (.iload_n 3, 1) := by decide +kernel
theorem dX0_hornOf_23 : decode cX0_hornOf 23 = .ok (.invokevirtual 50, 3) := by decide +kernel
theorem dX0_hornOf_26 : decode cX0_hornOf 26 = .ok (.iadd, 1) := by decide +kernel
theorem dX0_hornOf_27 : decode cX0_hornOf 27 = .ok (.istore_n 2, 1) := by decide +kernel
theorem dX0_hornOf_28 : decode cX0_hornOf 28 = .ok (.iinc 3 1, 3) := by decide +kernel
theorem dX0_hornOf_31 : decode cX0_hornOf 31 = .ok (.goto (-27), 3) := by decide +kernel
theorem dX0_hornOf_34 : decode cX0_hornOf 34 = .ok (.iload_n 2, 1) := by decide +kernel
theorem dX0_hornOf_35 : decode cX0_hornOf 35 = .ok (.ireturn, 1) := by decide +kernel
theorem dX0_brassOf_0 : decode cX0_brassOf 0 = .ok (.iconst 0, 1) := by decide +kernel
theorem dX0_brassOf_1 : decode cX0_brassOf 1 = .ok (.istore_n 2, 1) := by decide +kernel
theorem dX0_brassOf_2 : decode cX0_brassOf 2 = .ok (.iconst 0, 1) := by decide +kernel
theorem dX0_brassOf_3 : decode cX0_brassOf 3 = .ok (.istore_n 3, 1) := by decide +kernel
theorem dX0_brassOf_4 : decode cX0_brassOf 4 = .ok (.iload_n 3, 1) := by decide +kernel
theorem dX0_brassOf_5 : decode cX0_brassOf 5 = .ok (.aload_n 0, 1) := by decide +kernel
theorem dX0_brassOf_6 : decode cX0_brassOf 6 = .ok (.getfield 30, 3) := by decide +kernel
theorem dX0_brassOf_9 : decode cX0_brassOf 9 = .ok (.if_icmp .ge 25, 3) := by decide +kernel
theorem dX0_brassOf_12 : decode cX0_brassOf 12 = .ok (.iload_n 1, 1) := by decide +kernel
theorem dX0_brassOf_13 : decode cX0_brassOf 13 = .ok (.iload_n 3, 1) := by decide +kernel
theorem dX0_brassOf_14 : decode cX0_brassOf 14 = .ok (.invokestatic 60, 3) := by decide +kernel
theorem dX0_brassOf_17 : decode cX0_brassOf 17 = .ok (.ifCond .eq 11, 3) := by decide +kernel
theorem dX0_brassOf_20 : decode cX0_brassOf 20 = .ok (.iload_n 2, 1) := by decide +kernel
theorem dX0_brassOf_21 : decode cX0_brassOf 21 = .ok (.aload_n 0, 1) := by decide +kernel
theorem dX0_brassOf_22 : decode cX0_brassOf 22 = .ok (.iload_n 3, 1) := by decide +kernel
theorem dX0_brassOf_23 : decode cX0_brassOf 23 = .ok (.invokevirtual 54, 3) := by decide +kernel
theorem dX0_brassOf_26 : decode cX0_brassOf 26 = .ok (.iadd, 1) := by decide +kernel
theorem dX0_brassOf_27 : decode cX0_brassOf 27 = .ok (.istore_n 2, 1) := by decide +kernel
theorem dX0_brassOf_28 : decode cX0_brassOf 28 = .ok (.iinc 3 1, 3) := by decide +kernel
theorem dX0_brassOf_31 : decode cX0_brassOf 31 = .ok (.goto (-27), 3) := by decide +kernel
theorem dX0_brassOf_34 : decode cX0_brassOf 34 = .ok (.iload_n 2, 1) := by decide +kernel
theorem dX0_brassOf_35 : decode cX0_brassOf 35 = .ok (.ireturn, 1) := by decide +kernel
theorem dX0_wouldPass_0 : decode cX0_wouldPass 0 = .ok (.aload_n 0, 1) := by decide +kernel
theorem dX0_wouldPass_1 : decode cX0_wouldPass 1 = .ok (.iload_n 1, 1) := by decide +kernel
theorem dX0_wouldPass_2 : decode cX0_wouldPass 2 = .ok (.invokevirtual 67, 3) := by decide +kernel
theorem dX0_wouldPass_5 : decode cX0_wouldPass 5 = .ok (.istore_n 3, 1) := by decide +kernel
theorem dX0_wouldPass_6 : decode cX0_wouldPass 6 = .ok (.aload_n 0, 1) := by decide +kernel
theorem dX0_wouldPass_7 : decode cX0_wouldPass 7 = .ok (.iload_n 1, 1) := by decide +kernel
theorem dX0_wouldPass_8 : decode cX0_wouldPass 8 = .ok (.iconst (-1), 1) := by decide +kernel
theorem dX0_wouldPass_9 : decode cX0_wouldPass 9 = .ok (.ixor, 1) := by decide +kernel
theorem dX0_wouldPass_10 : decode cX0_wouldPass 10 = .ok (.invokevirtual 67, 3) := by decide +kernel
theorem dX0_wouldPass_13 : decode cX0_wouldPass 13 = .ok (.istore 4, 2) := by decide +kernel
theorem dX0_wouldPass_15 : decode cX0_wouldPass 15 = .ok (.iload_n 3, 1) := by decide +kernel
theorem dX0_wouldPass_16 : decode cX0_wouldPass 16 = .ok (.iload 4, 2) := by decide +kernel
theorem dX0_wouldPass_18 : decode cX0_wouldPass 18 = .ok (.if_icmp .le 15, 3) := by decide +kernel
theorem dX0_wouldPass_21 : decode cX0_wouldPass 21 = .ok (.iload_n 3, 1) := by decide +kernel
theorem dX0_wouldPass_22 : decode cX0_wouldPass 22 = .ok (.iload 4, 2) := by decide +kernel
theorem dX0_wouldPass_24 : decode cX0_wouldPass 24 = .ok (.iadd, 1) := by decide +kernel
theorem dX0_wouldPass_25 : decode cX0_wouldPass 25 = .ok (.iload_n 2, 1) := by decide +kernel
theorem dX0_wouldPass_26 : decode cX0_wouldPass 26 = .ok (.if_icmp .lt 7, 3) := by decide +kernel
theorem dX0_wouldPass_29 : decode cX0_wouldPass 29 = .ok (.iconst 1, 1) := by decide +kernel
theorem dX0_wouldPass_30 : decode cX0_wouldPass 30 = .ok (.goto 4, 3) := by decide +kernel
theorem dX0_wouldPass_33 : decode cX0_wouldPass 33 = .ok (.iconst 0, 1) := by decide +kernel
theorem dX0_wouldPass_34 : decode cX0_wouldPass 34 = .ok (.ireturn, 1) := by decide +kernel
theorem dX0_cutAll_0 : decode cX0_cutAll 0 = .ok (.iconst 0, 1) := by decide +kernel
theorem dX0_cutAll_1 : decode cX0_cutAll 1 = .ok (.istore_n 1, 1) := by decide +kernel
theorem dX0_cutAll_2 : decode cX0_cutAll 2 = .ok (.iload_n 1, 1) := by decide +kernel
theorem dX0_cutAll_3 : decode cX0_cutAll 3 = .ok (.aload_n 0, 1) := by decide +kernel
theorem dX0_cutAll_4 : decode cX0_cutAll 4 = .ok (.getfield 30, 3) := by decide +kernel
theorem dX0_cutAll_7 : decode cX0_cutAll 7 = .ok (.if_icmp .ge 62, 3) := by decide +kernel
theorem dX0_cutAll_10 : decode cX0_cutAll 10 = .ok (.aload_n 0, 1) := by decide +kernel
theorem dX0_cutAll_11 : decode cX0_cutAll 11 = .ok (.iload_n 1, 1) := by decide +kernel
theorem dX0_cutAll_12 : decode cX0_cutAll 12 = .ok (.invokevirtual 50, 3) := by decide +kernel
theorem dX0_cutAll_15 : decode cX0_cutAll 15 = .ok (.istore_n 2, 1) := by decide +kernel
theorem dX0_cutAll_16 : decode cX0_cutAll 16 = .ok (.aload_n 0, 1) := by decide +kernel
theorem dX0_cutAll_17 : decode cX0_cutAll 17 = .ok (.iload_n 1, 1) := by decide +kernel
theorem dX0_cutAll_18 : decode cX0_cutAll 18 = .ok (.invokevirtual 54, 3) := by decide +kernel
theorem dX0_cutAll_21 : decode cX0_cutAll 21 = .ok (.istore_n 3, 1) := by decide +kernel
theorem dX0_cutAll_22 : decode cX0_cutAll 22 = .ok (.aload_n 0, 1) := by decide +kernel
theorem dX0_cutAll_23 : decode cX0_cutAll 23 = .ok (.getfield 18, 3) := by decide +kernel
theorem dX0_cutAll_26 : decode cX0_cutAll 26 = .ok (.iload_n 1, 1) := by decide +kernel
theorem dX0_cutAll_27 : decode cX0_cutAll 27 = .ok (.dup2, 1) := by decide +kernel
theorem dX0_cutAll_28 : decode cX0_cutAll 28 = .ok (.iaload, 1) := by decide +kernel
theorem dX0_cutAll_29 : decode cX0_cutAll 29 = .ok (.iload_n 2, 1) := by decide +kernel
theorem dX0_cutAll_30 : decode cX0_cutAll 30 = .ok (.isub, 1) := by decide +kernel
theorem dX0_cutAll_31 : decode cX0_cutAll 31 = .ok (.iastore, 1) := by decide +kernel
theorem dX0_cutAll_32 : decode cX0_cutAll 32 = .ok (.aload_n 0, 1) := by decide +kernel
theorem dX0_cutAll_33 : decode cX0_cutAll 33 = .ok (.getfield 21, 3) := by decide +kernel
theorem dX0_cutAll_36 : decode cX0_cutAll 36 = .ok (.iload_n 1, 1) := by decide +kernel
theorem dX0_cutAll_37 : decode cX0_cutAll 37 = .ok (.dup2, 1) := by decide +kernel
theorem dX0_cutAll_38 : decode cX0_cutAll 38 = .ok (.iaload, 1) := by decide +kernel
theorem dX0_cutAll_39 : decode cX0_cutAll 39 = .ok (.iload_n 3, 1) := by decide +kernel
theorem dX0_cutAll_40 : decode cX0_cutAll 40 = .ok (.isub, 1) := by decide +kernel
theorem dX0_cutAll_41 : decode cX0_cutAll 41 = .ok (.iastore, 1) := by decide +kernel
theorem dX0_cutAll_42 : decode cX0_cutAll 42 = .ok (.aload_n 0, 1) := by decide +kernel
theorem dX0_cutAll_43 : decode cX0_cutAll 43 = .ok (.getfield 24, 3) := by decide +kernel
theorem dX0_cutAll_46 : decode cX0_cutAll 46 = .ok (.iload_n 1, 1) := by decide +kernel
theorem dX0_cutAll_47 : decode cX0_cutAll 47 = .ok (.bipush 99, 2) := by decide +kernel
theorem dX0_cutAll_49 : decode cX0_cutAll 49 = .ok (.aload_n 0, 1) := by decide +kernel
theorem dX0_cutAll_50 : decode cX0_cutAll 50 = .ok (.getfield 24, 3) := by decide +kernel
theorem dX0_cutAll_53 : decode cX0_cutAll 53 = .ok (.iload_n 1, 1) := by decide +kernel
theorem dX0_cutAll_54 : decode cX0_cutAll 54 = .ok (.iaload, 1) := by decide +kernel
theorem dX0_cutAll_55 : decode cX0_cutAll 55 = .ok (.iload_n 2, 1) := by decide +kernel
theorem dX0_cutAll_56 : decode cX0_cutAll 56 = .ok (.iadd, 1) := by decide +kernel
theorem dX0_cutAll_57 : decode cX0_cutAll 57 = .ok (.iload_n 3, 1) := by decide +kernel
theorem dX0_cutAll_58 : decode cX0_cutAll 58 = .ok (.iadd, 1) := by decide +kernel
theorem dX0_cutAll_59 : decode cX0_cutAll 59 = .ok (.invokestatic 44, 3) := by decide +kernel
theorem dX0_cutAll_62 : decode cX0_cutAll 62 = .ok (.iastore, 1) := by decide +kernel
theorem dX0_cutAll_63 : decode cX0_cutAll 63 = .ok (.iinc 1 1, 3) := by decide +kernel
theorem dX0_cutAll_66 : decode cX0_cutAll 66 = .ok (.goto (-64), 3) := by decide +kernel
theorem dX0_cutAll_69 : decode cX0_cutAll 69 = .ok (.return_, 1) := by decide +kernel
theorem dX0_healthBehind_0 : decode cX0_healthBehind 0 = .ok (.iload_n 3, 1) := by decide +kernel
theorem dX0_healthBehind_1 : decode cX0_healthBehind 1 = .ok (.ifCond .ne 5, 3) := by decide +kernel
theorem dX0_healthBehind_4 : decode cX0_healthBehind 4 = .ok (.iconst 0, 1) := by decide +kernel
theorem dX0_healthBehind_5 : decode cX0_healthBehind 5 = .ok (.ireturn, 1) := by decide +kernel
theorem dX0_healthBehind_6 : decode cX0_healthBehind 6 = .ok (.iload 4, 2) := by decide +kernel
theorem dX0_healthBehind_8 : decode cX0_healthBehind 8 = .ok (.ifCond .ne 12, 3) := by decide +kernel
theorem dX0_healthBehind_11 : decode cX0_healthBehind 11 = .ok (.bipush 99, 2) := by decide +kernel
theorem dX0_healthBehind_13 : decode cX0_healthBehind 13 = .ok (.iload_n 3, 1) := by decide +kernel
theorem dX0_healthBehind_14 : decode cX0_healthBehind 14 = .ok (.iconst 1, 1) := by decide +kernel
theorem dX0_healthBehind_15 : decode cX0_healthBehind 15 = .ok (.iadd, 1) := by decide +kernel
theorem dX0_healthBehind_16 : decode cX0_healthBehind 16 = .ok (.invokestatic 44, 3) := by decide +kernel
theorem dX0_healthBehind_19 : decode cX0_healthBehind 19 = .ok (.ireturn, 1) := by decide +kernel
theorem dX0_healthBehind_20 : decode cX0_healthBehind 20 = .ok (.iconst 0, 1) := by decide +kernel
theorem dX0_healthBehind_21 : decode cX0_healthBehind 21 = .ok (.iload_n 3, 1) := by decide +kernel
theorem dX0_healthBehind_22 : decode cX0_healthBehind 22 = .ok (.aload_n 0, 1) := by decide +kernel
theorem dX0_healthBehind_23 : decode cX0_healthBehind 23 = .ok (.iload_n 1, 1) := by decide +kernel
theorem dX0_healthBehind_24 : decode cX0_healthBehind 24 = .ok (.aload 5, 2) := by decide +kernel
theorem dX0_healthBehind_26 : decode cX0_healthBehind 26 = .ok (.iload 4, 2) := by decide +kernel
theorem dX0_healthBehind_28 : decode cX0_healthBehind 28 = .ok (.iload_n 2, 1) := by decide +kernel
theorem dX0_healthBehind_29 : decode cX0_healthBehind 29 = .ok (.iload_n 3, 1) := by decide +kernel
theorem dX0_healthBehind_30 : decode cX0_healthBehind 30 = .ok (.invokevirtual 70, 3) := by decide +kernel
theorem dX0_healthBehind_33 : decode cX0_healthBehind 33 = .ok (.invokevirtual 76, 3) := by decide +kernel
theorem dX0_healthBehind_36 : decode cX0_healthBehind 36 = .ok (.isub, 1) := by decide +kernel
theorem dX0_healthBehind_37 : decode cX0_healthBehind 37 = .ok (.invokestatic 57, 3) := by decide +kernel
theorem dX0_healthBehind_40 : decode cX0_healthBehind 40 = .ok (.ireturn, 1) := by decide +kernel
theorem dX0_passDay_0 : decode cX0_passDay 0 = .ok (.iconst 0, 1) := by decide +kernel
theorem dX0_passDay_1 : decode cX0_passDay 1 = .ok (.istore_n 3, 1) := by decide +kernel
theorem dX0_passDay_2 : decode cX0_passDay 2 = .ok (.iload_n 3, 1) := by decide +kernel
theorem dX0_passDay_3 : decode cX0_passDay 3 = .ok (.aload_n 0, 1) := by decide +kernel
theorem dX0_passDay_4 : decode cX0_passDay 4 = .ok (.getfield 30, 3) := by decide +kernel
theorem dX0_passDay_7 : decode cX0_passDay 7 = .ok (.if_icmp .ge 34, 3) := by decide +kernel
theorem dX0_passDay_10 : decode cX0_passDay 10 = .ok (.aload_n 0, 1) := by decide +kernel
theorem dX0_passDay_11 : decode cX0_passDay 11 = .ok (.getfield 27, 3) := by decide +kernel
theorem dX0_passDay_14 : decode cX0_passDay 14 = .ok (.iload_n 3, 1) := by decide +kernel
theorem dX0_passDay_15 : decode cX0_passDay 15 = .ok (.aload_n 0, 1) := by decide +kernel
theorem dX0_passDay_16 : decode cX0_passDay 16 = .ok (.iload_n 3, 1) := by decide +kernel
theorem dX0_passDay_17 : decode cX0_passDay 17 = .ok (.aload_n 0, 1) := by decide +kernel
theorem dX0_passDay_18 : decode cX0_passDay 18 = .ok (.getfield 24, 3) := by decide +kernel
theorem dX0_passDay_21 : decode cX0_passDay 21 = .ok (.iload_n 3, 1) := by decide +kernel
theorem dX0_passDay_22 : decode cX0_passDay 22 = .ok (.iaload, 1) := by decide +kernel
theorem dX0_passDay_23 : decode cX0_passDay 23 = .ok (.aload_n 0, 1) := by decide +kernel
theorem dX0_passDay_24 : decode cX0_passDay 24 = .ok (.getfield 27, 3) := by decide +kernel
theorem dX0_passDay_27 : decode cX0_passDay 27 = .ok (.iload_n 3, 1) := by decide +kernel
theorem dX0_passDay_28 : decode cX0_passDay 28 = .ok (.iaload, 1) := by decide +kernel
theorem dX0_passDay_29 : decode cX0_passDay 29 = .ok (.iload_n 1, 1) := by decide +kernel
theorem dX0_passDay_30 : decode cX0_passDay 30 = .ok (.aload_n 2, 1) := by decide +kernel
theorem dX0_passDay_31 : decode cX0_passDay 31 = .ok (.invokevirtual 79, 3) := by decide +kernel
theorem dX0_passDay_34 : decode cX0_passDay 34 = .ok (.iastore, 1) := by decide +kernel
theorem dX0_passDay_35 : decode cX0_passDay 35 = .ok (.iinc 3 1, 3) := by decide +kernel
theorem dX0_passDay_38 : decode cX0_passDay 38 = .ok (.goto (-36), 3) := by decide +kernel
theorem dX0_passDay_41 : decode cX0_passDay 41 = .ok (.return_, 1) := by decide +kernel
theorem dX0_living_0 : decode cX0_living 0 = .ok (.iconst 0, 1) := by decide +kernel
theorem dX0_living_1 : decode cX0_living 1 = .ok (.istore_n 1, 1) := by decide +kernel
theorem dX0_living_2 : decode cX0_living 2 = .ok (.iconst 0, 1) := by decide +kernel
theorem dX0_living_3 : decode cX0_living 3 = .ok (.istore_n 2, 1) := by decide +kernel
theorem dX0_living_4 : decode cX0_living 4 = .ok (.iload_n 2, 1) := by decide +kernel
theorem dX0_living_5 : decode cX0_living 5 = .ok (.aload_n 0, 1) := by decide +kernel
theorem dX0_living_6 : decode cX0_living 6 = .ok (.getfield 30, 3) := by decide +kernel
theorem dX0_living_9 : decode cX0_living 9 = .ok (.if_icmp .ge 24, 3) := by decide +kernel
theorem dX0_living_12 : decode cX0_living 12 = .ok (.aload_n 0, 1) := by decide +kernel
theorem dX0_living_13 : decode cX0_living 13 = .ok (.getfield 27, 3) := by decide +kernel
theorem dX0_living_16 : decode cX0_living 16 = .ok (.iload_n 2, 1) := by decide +kernel
theorem dX0_living_17 : decode cX0_living 17 = .ok (.iaload, 1) := by decide +kernel
theorem dX0_living_18 : decode cX0_living 18 = .ok (.ifCond .le 9, 3) := by decide +kernel
theorem dX0_living_21 : decode cX0_living 21 = .ok (.iload_n 1, 1) := by decide +kernel
theorem dX0_living_22 : decode cX0_living 22 = .ok (.iconst 1, 1) := by decide +kernel
theorem dX0_living_23 : decode cX0_living 23 = .ok (.iload_n 2, 1) := by decide +kernel
theorem dX0_living_24 : decode cX0_living 24 = .ok (.ishl, 1) := by decide +kernel
theorem dX0_living_25 : decode cX0_living 25 = .ok (.ior, 1) := by decide +kernel
theorem dX0_living_26 : decode cX0_living 26 = .ok (.istore_n 1, 1) := by decide +kernel
theorem dX0_living_27 : decode cX0_living 27 = .ok (.iinc 2 1, 3) := by decide +kernel
theorem dX0_living_30 : decode cX0_living 30 = .ok (.goto (-26), 3) := by decide +kernel
theorem dX0_living_33 : decode cX0_living 33 = .ok (.iload_n 1, 1) := by decide +kernel
theorem dX0_living_34 : decode cX0_living 34 = .ok (.ireturn, 1) := by decide +kernel
theorem dX1_init_0 : decode cX1_init 0 = .ok (.aload_n 0, 1) := by decide +kernel
theorem dX1_init_1 : decode cX1_init 1 = .ok (.invokespecial 3, 3) := by decide +kernel
theorem dX1_init_4 : decode cX1_init 4 = .ok (.aload_n 0, 1) := by decide +kernel
theorem dX1_init_5 : decode cX1_init 5 = .ok (.bipush 50, 2) := by decide +kernel
theorem dX1_init_7 : decode cX1_init 7 = .ok (.newarray .int, 2) := by decide +kernel
theorem dX1_init_9 : decode cX1_init 9 = .ok (.putfield 9, 3) := by decide +kernel
theorem dX1_init_12 : decode cX1_init 12 = .ok (.aload_n 0, 1) := by decide +kernel
theorem dX1_init_13 : decode cX1_init 13 = .ok (.iconst 0, 1) := by decide +kernel
theorem dX1_init_14 : decode cX1_init 14 = .ok (.newarray .int, 2) := by decide +kernel
theorem dX1_init_16 : decode cX1_init 16 = .ok (.putfield 15, 3) := by decide +kernel
theorem dX1_init_19 : decode cX1_init 19 = .ok (.return_, 1) := by decide +kernel
theorem dX1_read_0 : decode cX1_read 0 = .ok (.aload_n 0, 1) := by decide +kernel
theorem dX1_read_1 : decode cX1_read 1 = .ok (.aload_n 1, 1) := by decide +kernel
theorem dX1_read_2 : decode cX1_read 2 = .ok (.putfield 15, 3) := by decide +kernel
theorem dX1_read_5 : decode cX1_read 5 = .ok (.aload_n 0, 1) := by decide +kernel
theorem dX1_read_6 : decode cX1_read 6 = .ok (.iload_n 2, 1) := by decide +kernel
theorem dX1_read_7 : decode cX1_read 7 = .ok (.aload_n 1, 1) := by decide +kernel
theorem dX1_read_8 : decode cX1_read 8 = .ok (.arraylength, 1) := by decide +kernel
theorem dX1_read_9 : decode cX1_read 9 = .ok (.invokestatic 18, 3) := by decide +kernel
theorem dX1_read_12 : decode cX1_read 12 = .ok (.putfield 24, 3) := by decide +kernel
theorem dX1_read_15 : decode cX1_read 15 = .ok (.aload_n 0, 1) := by decide +kernel
theorem dX1_read_16 : decode cX1_read 16 = .ok (.iload_n 3, 1) := by decide +kernel
theorem dX1_read_17 : decode cX1_read 17 = .ok (.putfield 28, 3) := by decide +kernel
theorem dX1_read_20 : decode cX1_read 20 = .ok (.aload_n 0, 1) := by decide +kernel
theorem dX1_read_21 : decode cX1_read 21 = .ok (.iconst 0, 1) := by decide +kernel
theorem dX1_read_22 : decode cX1_read 22 = .ok (.putfield 31, 3) := by decide +kernel
theorem dX1_read_25 : decode cX1_read 25 = .ok (.aload_n 0, 1) := by decide +kernel
theorem dX1_read_26 : decode cX1_read 26 = .ok (.iconst 0, 1) := by decide +kernel
theorem dX1_read_27 : decode cX1_read 27 = .ok (.putfield 34, 3) := by decide +kernel
theorem dX1_read_30 : decode cX1_read 30 = .ok (.aload_n 0, 1) := by decide +kernel
theorem dX1_read_31 : decode cX1_read 31 = .ok (.iconst (-1), 1) := by decide +kernel
theorem dX1_read_32 : decode cX1_read 32 = .ok (.putfield 37, 3) := by decide +kernel
theorem dX1_read_35 : decode cX1_read 35 = .ok (.aload_n 0, 1) := by decide +kernel
theorem dX1_read_36 : decode cX1_read 36 = .ok (.iconst 0, 1) := by decide +kernel
theorem dX1_read_37 : decode cX1_read 37 = .ok (.iconst 0, 1) := by decide +kernel
theorem dX1_read_38 : decode cX1_read 38 = .ok (.invokevirtual 40, 3) := by decide +kernel
theorem dX1_read_41 : decode cX1_read 41 = .ok (.aload_n 0, 1) := by decide +kernel
theorem dX1_read_42 : decode cX1_read 42 = .ok (.getfield 31, 3) := by decide +kernel
theorem dX1_read_45 : decode cX1_read 45 = .ok (.aload_n 0, 1) := by decide +kernel
theorem dX1_read_46 : decode cX1_read 46 = .ok (.getfield 24, 3) := by decide +kernel
theorem dX1_read_49 : decode cX1_read 49 = .ok (.if_icmp .ge 7, 3) := by decide +kernel
theorem dX1_read_52 : decode cX1_read 52 = .ok (.aload_n 0, 1) := by decide +kernel
theorem dX1_read_53 : decode cX1_read 53 = .ok (.invokevirtual 44, 3) := by decide +kernel
theorem dX1_read_56 : decode cX1_read 56 = .ok (.aload_n 0, 1) := by decide +kernel
theorem dX1_read_57 : decode cX1_read 57 = .ok (.getfield 37, 3) := by decide +kernel
theorem dX1_read_60 : decode cX1_read 60 = .ok (.ireturn, 1) := by decide +kernel
theorem dX1_readLevel_0 : decode cX1_readLevel 0 = .ok (.iload_n 1, 1) := by decide +kernel
theorem dX1_readLevel_1 : decode cX1_readLevel 1 = .ok (.iconst 5, 1) := by decide +kernel
theorem dX1_readLevel_2 : decode cX1_readLevel 2 = .ok (.if_icmp .lt 9, 3) := by decide +kernel
theorem dX1_readLevel_5 : decode cX1_readLevel 5 = .ok (.aload_n 0, 1) := by decide +kernel
theorem dX1_readLevel_6 : decode cX1_readLevel 6 = .ok (.iload_n 2, 1) := by decide +kernel
theorem dX1_readLevel_7 : decode cX1_readLevel 7 = .ok (.invokevirtual 47, 3) := by decide +kernel
theorem dX1_readLevel_10 : decode cX1_readLevel 10 = .ok (.return_, 1) := by decide +kernel
theorem dX1_readLevel_11 : decode cX1_readLevel 11 = .ok (.aload_n 0, 1) := by decide +kernel
theorem dX1_readLevel_12 : decode cX1_readLevel 12 = .ok (.iload_n 1, 1) := by decide +kernel
theorem dX1_readLevel_13 : decode cX1_readLevel 13 = .ok (.iconst 1, 1) := by decide +kernel
theorem dX1_readLevel_14 : decode cX1_readLevel 14 = .ok (.iadd, 1) := by decide +kernel
theorem dX1_readLevel_15 : decode cX1_readLevel 15 = .ok (.iload_n 2, 1) := by decide +kernel
theorem dX1_readLevel_16 : decode cX1_readLevel 16 = .ok (.invokevirtual 40, 3) := by decide +kernel
theorem dX1_readLevel_19 : decode cX1_readLevel 19 = .ok (.iload_n 1, 1) := by decide +kernel
theorem dX1_readLevel_20 : decode cX1_readLevel 20 = .ok (.iconst 2, 1) := by decide +kernel
theorem dX1_readLevel_21 : decode cX1_readLevel 21 = .ok (.if_icmp .ne 7, 3) := by decide +kernel
theorem dX1_readLevel_24 : decode cX1_readLevel 24 = .ok (.iconst 1, 1) := by decide +kernel
theorem dX1_readLevel_25 : decode cX1_readLevel 25 = .ok (.goto 5, 3) := by decide +kernel
theorem dX1_readLevel_28 : decode cX1_readLevel 28 = .ok (.bipush 50, 2) := by decide +kernel
theorem dX1_readLevel_30 : decode cX1_readLevel 30 = .ok (.istore_n 3, 1) := by decide +kernel
theorem dX1_readLevel_31 : decode cX1_readLevel 31 = .ok (.iconst 0, 1) := by decide +kernel
theorem dX1_readLevel_32 : decode cX1_readLevel 32 = .ok (.istore 4, 2) := by decide +kernel
theorem dX1_readLevel_34 : decode cX1_readLevel 34 = .ok (.iload 4, 2) := by decide +kernel
theorem dX1_readLevel_36 : decode cX1_readLevel 36 = .ok (.iload_n 3, 1) := by decide +kernel
theorem dX1_readLevel_37 : decode cX1_readLevel 37 = .ok (.if_icmp .ge 52, 3) := by decide +kernel
theorem dX1_readLevel_40 : decode cX1_readLevel 40 = .ok (.aload_n 0, 1) := by decide +kernel
theorem dX1_readLevel_41 : decode cX1_readLevel 41 = .ok (.aload_n 0, 1) := by decide +kernel
theorem dX1_readLevel_42 : decode cX1_readLevel 42 = .ok (.invokevirtual 51, 3) := by decide +kernel
theorem dX1_readLevel_45 : decode cX1_readLevel 45 = .ok (.invokevirtual 55, 3) := by decide +kernel
theorem dX1_readLevel_48 : decode cX1_readLevel 48 = .ok (.iload_n 1, 1) := by decide +kernel
theorem dX1_readLevel_49 : decode cX1_readLevel 49 = .ok (.if_icmp .ne 40, 3) := by decide +kernel
theorem dX1_readLevel_52 : decode cX1_readLevel 52 = .ok (.aload_n 0, 1) := by decide +kernel
theorem dX1_readLevel_53 : decode cX1_readLevel 53 = .ok (.invokevirtual 51, 3) := by decide +kernel
theorem dX1_readLevel_56 : decode cX1_readLevel 56 = .ok (.istore 5, 2) := by decide +kernel
theorem dX1_readLevel_58 : decode cX1_readLevel 58 = .ok (.aload_n 0, 1) := by decide +kernel
theorem dX1_readLevel_59 : decode cX1_readLevel 59 = .ok (.dup, 1) := by decide +kernel
theorem dX1_readLevel_60 : decode cX1_readLevel 60 = .ok (.getfield 31, 3) := by decide +kernel
theorem dX1_readLevel_63 : decode cX1_readLevel 63 = .ok (.iconst 1, 1) := by decide +kernel
theorem dX1_readLevel_64 : decode cX1_readLevel 64 = .ok (.iadd, 1) := by decide +kernel
theorem dX1_readLevel_65 : decode cX1_readLevel 65 = .ok (.putfield 31, 3) := by decide +kernel
theorem dX1_readLevel_68 : decode cX1_readLevel 68 = .ok (.aload_n 0, 1) := by decide +kernel
theorem dX1_readLevel_69 : decode cX1_readLevel 69 = .ok (.iload_n 1, 1) := by decide +kernel
theorem dX1_readLevel_70 : decode cX1_readLevel 70 = .ok (.iconst 1, 1) := by decide +kernel
theorem dX1_readLevel_71 : decode cX1_readLevel 71 = .ok (.iadd, 1) := by decide +kernel
theorem dX1_readLevel_72 : decode cX1_readLevel 72 = .ok (.iload_n 2, 1) := by decide +kernel
theorem dX1_readLevel_73 : decode cX1_readLevel 73 = .ok (.invokevirtual 40, 3) := by decide +kernel
theorem dX1_readLevel_76 : decode cX1_readLevel 76 = .ok (.aload_n 0, 1) := by decide +kernel
theorem dX1_readLevel_77 : decode cX1_readLevel 77 = .ok (.iload 5, 2) := by decide +kernel
theorem dX1_readLevel_79 : decode cX1_readLevel 79 = .ok (.ineg, 1) := by decide +kernel
theorem dX1_readLevel_80 : decode cX1_readLevel 80 = .ok (.invokevirtual 59, 3) := by decide +kernel
theorem dX1_readLevel_83 : decode cX1_readLevel 83 = .ok (.iinc 4 1, 3) := by decide +kernel
theorem dX1_readLevel_86 : decode cX1_readLevel 86 = .ok (.goto (-52), 3) := by decide +kernel
theorem dX1_readLevel_89 : decode cX1_readLevel 89 = .ok (.return_, 1) := by decide +kernel
theorem dX1_readQ_0 : decode cX1_readQ 0 = .ok (.aload_n 0, 1) := by decide +kernel
theorem dX1_readQ_1 : decode cX1_readQ 1 = .ok (.invokevirtual 51, 3) := by decide +kernel
theorem dX1_readQ_4 : decode cX1_readQ 4 = .ok (.istore_n 2, 1) := by decide +kernel
theorem dX1_readQ_5 : decode cX1_readQ 5 = .ok (.iload_n 2, 1) := by decide +kernel
theorem dX1_readQ_6 : decode cX1_readQ 6 = .ok (.bipush 48, 2) := by decide +kernel
theorem dX1_readQ_8 : decode cX1_readQ 8 = .ok (.if_icmp .lt 16, 3) := by decide +kernel
theorem dX1_readQ_11 : decode cX1_readQ 11 = .ok (.iload_n 2, 1) := by decide +kernel
theorem dX1_readQ_12 : decode cX1_readQ 12 = .ok (.bipush 57, 2) := by decide +kernel
theorem dX1_readQ_14 : decode cX1_readQ 14 = .ok (.if_icmp .gt 10, 3) := by decide +kernel
theorem dX1_readQ_17 : decode cX1_readQ 17 = .ok (.aload_n 0, 1) := by decide +kernel
theorem dX1_readQ_18 : decode cX1_readQ 18 = .ok (.invokevirtual 62, 3) := by decide +kernel
theorem dX1_readQ_21 : decode cX1_readQ 21 = .ok (.goto 102, 3) := by decide +kernel
theorem dX1_readQ_24 : decode cX1_readQ 24 = .ok (.aload_n 0, 1) := by decide +kernel
theorem dX1_readQ_25 : decode cX1_readQ 25 = .ok (.iload_n 2, 1) := by decide +kernel
theorem dX1_readQ_26 : decode cX1_readQ 26 = .ok (.invokevirtual 65, 3) := by decide +kernel
theorem dX1_readQ_29 : decode cX1_readQ 29 = .ok (.ifCond .le 26, 3) := by decide +kernel
theorem dX1_readQ_32 : decode cX1_readQ 32 = .ok (.aload_n 0, 1) := by decide +kernel
theorem dX1_readQ_33 : decode cX1_readQ 33 = .ok (.dup, 1) := by decide +kernel
theorem dX1_readQ_34 : decode cX1_readQ 34 = .ok (.getfield 31, 3) := by decide +kernel
theorem dX1_readQ_37 : decode cX1_readQ 37 = .ok (.iconst 1, 1) := by decide +kernel
theorem dX1_readQ_38 : decode cX1_readQ 38 = .ok (.iadd, 1) := by decide +kernel
theorem dX1_readQ_39 : decode cX1_readQ 39 = .ok (.putfield 31, 3) := by decide +kernel
theorem dX1_readQ_42 : decode cX1_readQ 42 = .ok (.aload_n 0, 1) := by decide +kernel
theorem dX1_readQ_43 : decode cX1_readQ 43 = .ok (.aload_n 0, 1) := by decide +kernel
theorem dX1_readQ_44 : decode cX1_readQ 44 = .ok (.iload_n 2, 1) := by decide +kernel
theorem dX1_readQ_45 : decode cX1_readQ 45 = .ok (.invokevirtual 65, 3) := by decide +kernel
theorem dX1_readQ_48 : decode cX1_readQ 48 = .ok (.ineg, 1) := by decide +kernel
theorem dX1_readQ_49 : decode cX1_readQ 49 = .ok (.invokevirtual 59, 3) := by decide +kernel
theorem dX1_readQ_52 : decode cX1_readQ 52 = .ok (.goto 71, 3) := by decide +kernel
theorem dX1_readQ_55 : decode cX1_readQ 55 = .ok (.iload_n 2, 1) := by decide +kernel
theorem dX1_readQ_56 : decode cX1_readQ 56 = .ok (.bipush 33, 2) := by decide +kernel
theorem dX1_readQ_58 : decode cX1_readQ 58 = .ok (.if_icmp .eq 9, 3) := by decide +kernel
theorem dX1_readQ_61 : decode cX1_readQ 61 = .ok (.iload_n 2, 1) := by decide +kernel
theorem dX1_readQ_62 : decode cX1_readQ 62 = .ok (.bipush 40, 2) := by decide +kernel
theorem dX1_readQ_64 : decode cX1_readQ 64 = .ok (.if_icmp .ne 55, 3) := by decide +kernel
theorem dX1_readQ_67 : decode cX1_readQ 67 = .ok (.iload_n 1, 1) := by decide +kernel
theorem dX1_readQ_68 : decode cX1_readQ 68 = .ok (.iconst 5, 1) := by decide +kernel
theorem dX1_readQ_69 : decode cX1_readQ 69 = .ok (.if_icmp .ge 50, 3) := by decide +kernel
theorem dX1_readQ_72 : decode cX1_readQ 72 = .ok (.aload_n 0, 1) := by decide +kernel
theorem dX1_readQ_73 : decode cX1_readQ 73 = .ok (.dup, 1) := by decide +kernel
theorem dX1_readQ_74 : decode cX1_readQ 74 = .ok (.getfield 31, 3) := by decide +kernel
theorem dX1_readQ_77 : decode cX1_readQ 77 = .ok (.iconst 1, 1) := by decide +kernel
theorem dX1_readQ_78 : decode cX1_readQ 78 = .ok (.iadd, 1) := by decide +kernel
theorem dX1_readQ_79 : decode cX1_readQ 79 = .ok (.putfield 31, 3) := by decide +kernel
theorem dX1_readQ_82 : decode cX1_readQ 82 = .ok (.iload_n 2, 1) := by decide +kernel
theorem dX1_readQ_83 : decode cX1_readQ 83 = .ok (.bipush 33, 2) := by decide +kernel
theorem dX1_readQ_85 : decode cX1_readQ 85 = .ok (.if_icmp .ne 19, 3) := by decide +kernel
theorem dX1_readQ_88 : decode cX1_readQ 88 = .ok (.aload_n 0, 1) := by decide +kernel
theorem dX1_readQ_89 : decode cX1_readQ 89 = .ok (.iload_n 1, 1) := by decide +kernel
theorem dX1_readQ_90 : decode cX1_readQ 90 = .ok (.iconst 1, 1) := by decide +kernel
theorem dX1_readQ_91 : decode cX1_readQ 91 = .ok (.iadd, 1) := by decide +kernel
theorem dX1_readQ_92 : decode cX1_readQ 92 = .ok (.invokevirtual 47, 3) := by decide +kernel
theorem dX1_readQ_95 : decode cX1_readQ 95 = .ok (.aload_n 0, 1) := by decide +kernel
theorem dX1_readQ_96 : decode cX1_readQ 96 = .ok (.iload_n 2, 1) := by decide +kernel
theorem dX1_readQ_97 : decode cX1_readQ 97 = .ok (.ineg, 1) := by decide +kernel
theorem dX1_readQ_98 : decode cX1_readQ 98 = .ok (.invokevirtual 59, 3) := by decide +kernel
theorem dX1_readQ_101 : decode cX1_readQ 101 = .ok (.goto 22, 3) := by decide +kernel
theorem dX1_readQ_104 : decode cX1_readQ 104 = .ok (.aload_n 0, 1) := by decide +kernel
theorem dX1_readQ_105 : decode cX1_readQ 105 = .ok (.iconst 0, 1) := by decide +kernel
theorem dX1_readQ_106 : decode cX1_readQ 106 = .ok (.iload_n 1, 1) := by decide +kernel
theorem dX1_readQ_107 : decode cX1_readQ 107 = .ok (.iconst 1, 1) := by decide +kernel
theorem dX1_readQ_108 : decode cX1_readQ 108 = .ok (.iadd, 1) := by decide +kernel
theorem dX1_readQ_109 : decode cX1_readQ 109 = .ok (.invokevirtual 40, 3) := by decide +kernel
theorem dX1_readQ_112 : decode cX1_readQ 112 = .ok (.aload_n 0, 1) := by decide +kernel
theorem dX1_readQ_113 : decode cX1_readQ 113 = .ok (.invokevirtual 68, 3) := by decide +kernel
theorem dX1_readQ_116 : decode cX1_readQ 116 = .ok (.goto 7, 3) := by decide +kernel
theorem dX1_readQ_119 : decode cX1_readQ 119 = .ok (.aload_n 0, 1) := by decide +kernel
theorem dX1_readQ_120 : decode cX1_readQ 120 = .ok (.invokevirtual 44, 3) := by decide +kernel
theorem dX1_readQ_123 : decode cX1_readQ 123 = .ok (.return_, 1) := by decide +kernel
theorem dX1_readNumber_0 : decode cX1_readNumber 0 = .ok (.iconst 0, 1) := by decide +kernel
theorem dX1_readNumber_1 : decode cX1_readNumber 1 = .ok (.istore_n 1, 1) := by decide +kernel
theorem dX1_readNumber_2 : decode cX1_readNumber 2 = .ok (.iconst 0, 1) := by decide +kernel
theorem dX1_readNumber_3 : decode cX1_readNumber 3 = .ok (.istore_n 2, 1) := by decide +kernel
theorem dX1_readNumber_4 : decode cX1_readNumber 4 = .ok (.iload_n 2, 1) := by decide +kernel
theorem dX1_readNumber_5 : decode cX1_readNumber 5 = .ok (.iconst 4, 1) := by decide +kernel
theorem dX1_readNumber_6 : decode cX1_readNumber 6 = .ok (.if_icmp .ge 50, 3) := by decide +kernel
theorem dX1_readNumber_9 : decode cX1_readNumber 9 = .ok (.aload_n 0, 1) := by decide +kernel
theorem dX1_readNumber_10 : decode cX1_readNumber 10 = .ok (.invokevirtual 51, 3) := by decide +kernel
theorem dX1_readNumber_13 : decode cX1_readNumber 13 = .ok (.bipush 48, 2) := by decide +kernel
theorem dX1_readNumber_15 : decode cX1_readNumber 15 = .ok (.if_icmp .lt 41, 3) := by decide +kernel
theorem dX1_readNumber_18 : decode cX1_readNumber 18 = .ok (.aload_n 0, 1) := by decide +kernel
theorem dX1_readNumber_19 : decode cX1_readNumber 19 = .ok (.invokevirtual 51, 3) := by decide +kernel
theorem dX1_readNumber_22 : decode cX1_readNumber 22 = .ok (.bipush 57, 2) := by decide +kernel
theorem dX1_readNumber_24 : decode cX1_readNumber 24 = .ok (.if_icmp .gt 32, 3) := by decide +kernel
theorem dX1_readNumber_27 : decode cX1_readNumber 27 = .ok (.bipush 10, 2) := by decide +kernel
theorem dX1_readNumber_29 : decode cX1_readNumber 29 = .ok (.iload_n 1, 1) := by decide +kernel
theorem dX1_readNumber_30 : decode cX1_readNumber 30 = .ok (.imul, 1) := by decide +kernel
theorem dX1_readNumber_31 : decode cX1_readNumber 31 = .ok (.aload_n 0, 1) := by decide +kernel
theorem dX1_readNumber_32 : decode cX1_readNumber 32 = .ok (.invokevirtual 51, 3) := by decide +kernel
theorem dX1_readNumber_35 : decode cX1_readNumber 35 = .ok (.iadd, 1) := by decide +kernel
theorem dX1_readNumber_36 : decode cX1_readNumber 36 = .ok (.bipush 48, 2) := by decide +kernel
theorem dX1_readNumber_38 : decode cX1_readNumber 38 = .ok (.isub, 1) := by decide +kernel
theorem dX1_readNumber_39 : decode cX1_readNumber 39 = .ok (.istore_n 1, 1) := by decide +kernel
theorem dX1_readNumber_40 : decode cX1_readNumber 40 = .ok (.aload_n 0, 1) := by decide +kernel
theorem dX1_readNumber_41 : decode cX1_readNumber 41 = .ok (.dup, 1) := by decide +kernel
theorem dX1_readNumber_42 : decode cX1_readNumber 42 = .ok (.getfield 31, 3) := by decide +kernel
theorem dX1_readNumber_45 : decode cX1_readNumber 45 = .ok (.iconst 1, 1) := by decide +kernel
theorem dX1_readNumber_46 : decode cX1_readNumber 46 = .ok (.iadd, 1) := by decide +kernel
theorem dX1_readNumber_47 : decode cX1_readNumber 47 = .ok (.putfield 31, 3) := by decide +kernel
theorem dX1_readNumber_50 : decode cX1_readNumber 50 = .ok (.iinc 2 1, 3) := by decide +kernel
theorem dX1_readNumber_53 : decode cX1_readNumber 53 = .ok (.goto (-49), 3) := by decide +kernel
theorem dX1_readNumber_56 : decode cX1_readNumber 56 = .ok (.aload_n 0, 1) := by decide +kernel
theorem dX1_readNumber_57 : decode cX1_readNumber 57 = .ok (.iload_n 1, 1) := by decide +kernel
theorem dX1_readNumber_58 : decode cX1_readNumber 58 = .ok (.invokevirtual 59, 3) := by decide +kernel
theorem dX1_readNumber_61 : decode cX1_readNumber 61 = .ok (.return_, 1) := by decide +kernel
theorem dX1_close_0 : decode cX1_close 0 = .ok (.aload_n 0, 1) := by decide +kernel
theorem dX1_close_1 : decode cX1_close 1 = .ok (.invokevirtual 51, 3) := by decide +kernel
theorem dX1_close_4 : decode cX1_close 4 = .ok (.bipush 41, 2) := by decide +kernel
theorem dX1_close_6 : decode cX1_close 6 = .ok (.if_icmp .ne 16, 3) := by decide +kernel
theorem dX1_close_9 : decode cX1_close 9 = .ok (.aload_n 0, 1) := by decide +kernel
theorem dX1_close_10 : decode cX1_close 10 = .ok (.dup, 1) := by decide +kernel
theorem dX1_close_11 : decode cX1_close 11 = .ok (.getfield 31, 3) := by decide +kernel
theorem dX1_close_14 : decode cX1_close 14 = .ok (.iconst 1, 1) := by decide +kernel
theorem dX1_close_15 : decode cX1_close 15 = .ok (.iadd, 1) := by decide +kernel
theorem dX1_close_16 : decode cX1_close 16 = .ok (.putfield 31, 3) := by decide +kernel
theorem dX1_close_19 : decode cX1_close 19 = .ok (.goto 7, 3) := by decide +kernel
theorem dX1_close_22 : decode cX1_close 22 = .ok (.aload_n 0, 1) := by decide +kernel
theorem dX1_close_23 : decode cX1_close 23 = .ok (.invokevirtual 44, 3) := by decide +kernel
theorem dX1_close_26 : decode cX1_close 26 = .ok (.return_, 1) := by decide +kernel
theorem dX1_next_0 : decode cX1_next 0 = .ok (.aload_n 0, 1) := by decide +kernel
theorem dX1_next_1 : decode cX1_next 1 = .ok (.getfield 37, 3) := by decide +kernel
theorem dX1_next_4 : decode cX1_next 4 = .ok (.ifCond .ge 26, 3) := by decide +kernel
theorem dX1_next_7 : decode cX1_next 7 = .ok (.aload_n 0, 1) := by decide +kernel
theorem dX1_next_8 : decode cX1_next 8 = .ok (.getfield 31, 3) := by decide +kernel
theorem dX1_next_11 : decode cX1_next 11 = .ok (.aload_n 0, 1) := by decide +kernel
theorem dX1_next_12 : decode cX1_next 12 = .ok (.getfield 24, 3) := by decide +kernel
theorem dX1_next_15 : decode cX1_next 15 = .ok (.if_icmp .ge 15, 3) := by decide +kernel
theorem dX1_next_18 : decode cX1_next 18 = .ok (.aload_n 0, 1) := by decide +kernel
theorem dX1_next_19 : decode cX1_next 19 = .ok (.getfield 15, 3) := by decide +kernel
theorem dX1_next_22 : decode cX1_next 22 = .ok (.aload_n 0, 1) := by decide +kernel
theorem dX1_next_23 : decode cX1_next 23 = .ok (.getfield 31, 3) := by decide +kernel
theorem dX1_next_26 : decode cX1_next 26 = .ok (.iaload, 1) := by decide +kernel
theorem dX1_next_27 : decode cX1_next 27 = .ok (.goto 4, 3) := by decide +kernel
theorem dX1_next_30 : decode cX1_next 30 = .ok (.iconst (-1), 1) := by decide +kernel
theorem dX1_next_31 : decode cX1_next 31 = .ok (.ireturn, 1) := by decide +kernel
theorem dX1_stop_0 : decode cX1_stop 0 = .ok (.aload_n 0, 1) := by decide +kernel
theorem dX1_stop_1 : decode cX1_stop 1 = .ok (.getfield 37, 3) := by decide +kernel
theorem dX1_stop_4 : decode cX1_stop 4 = .ok (.ifCond .ge 11, 3) := by decide +kernel
theorem dX1_stop_7 : decode cX1_stop 7 = .ok (.aload_n 0, 1) := by decide +kernel
theorem dX1_stop_8 : decode cX1_stop 8 = .ok (.aload_n 0, 1) := by decide +kernel
theorem dX1_stop_9 : decode cX1_stop 9 = .ok (.getfield 31, 3) := by decide +kernel
theorem dX1_stop_12 : decode cX1_stop 12 = .ok (.putfield 37, 3) := by decide +kernel
theorem dX1_stop_15 : decode cX1_stop 15 = .ok (.return_, 1) := by decide +kernel
theorem dX1_emit_0 : decode cX1_emit 0 = .ok (.aload_n 0, 1) := by decide +kernel
theorem dX1_emit_1 : decode cX1_emit 1 = .ok (.getfield 37, 3) := by decide +kernel
theorem dX1_emit_4 : decode cX1_emit 4 = .ok (.ifCond .ge 35, 3) := by decide +kernel
theorem dX1_emit_7 : decode cX1_emit 7 = .ok (.aload_n 0, 1) := by decide +kernel
theorem dX1_emit_8 : decode cX1_emit 8 = .ok (.getfield 34, 3) := by decide +kernel
theorem dX1_emit_11 : decode cX1_emit 11 = .ok (.aload_n 0, 1) := by decide +kernel
theorem dX1_emit_12 : decode cX1_emit 12 = .ok (.getfield 9, 3) := by decide +kernel
theorem dX1_emit_15 : decode cX1_emit 15 = .ok (.arraylength, 1) := by decide +kernel
theorem dX1_emit_16 : decode cX1_emit 16 = .ok (.if_icmp .ge 23, 3) := by decide +kernel
theorem dX1_emit_19 : decode cX1_emit 19 = .ok (.aload_n 0, 1) := by decide +kernel
theorem dX1_emit_20 : decode cX1_emit 20 = .ok (.getfield 9, 3) := by decide +kernel
theorem dX1_emit_23 : decode cX1_emit 23 = .ok (.aload_n 0, 1) := by decide +kernel
theorem dX1_emit_24 : decode cX1_emit 24 = .ok (.getfield 34, 3) := by decide +kernel
theorem dX1_emit_27 : decode cX1_emit 27 = .ok (.iload_n 1, 1) := by decide +kernel
theorem dX1_emit_28 : decode cX1_emit 28 = .ok (.iastore, 1) := by decide +kernel
theorem dX1_emit_29 : decode cX1_emit 29 = .ok (.aload_n 0, 1) := by decide +kernel
theorem dX1_emit_30 : decode cX1_emit 30 = .ok (.dup, 1) := by decide +kernel
theorem dX1_emit_31 : decode cX1_emit 31 = .ok (.getfield 34, 3) := by decide +kernel
theorem dX1_emit_34 : decode cX1_emit 34 = .ok (.iconst 1, 1) := by decide +kernel
theorem dX1_emit_35 : decode cX1_emit 35 = .ok (.iadd, 1) := by decide +kernel
theorem dX1_emit_36 : decode cX1_emit 36 = .ok (.putfield 34, 3) := by decide +kernel
theorem dX1_emit_39 : decode cX1_emit 39 = .ok (.return_, 1) := by decide +kernel
theorem dX1_levelOf_0 : decode cX1_levelOf 0 = .ok (.iload_n 1, 1) := by decide +kernel
theorem dX1_levelOf_1 : decode cX1_levelOf 1 = .ok (.lookupswitch 101 #[(37, 99), (38, 93), (42, 99), (43, 97), (45, 97), (47, 99), (60, 95), (61, 95), (62, 95), (124, 91)], 91) := by decide +kernel
theorem dX1_levelOf_92 : decode cX1_levelOf 92 = .ok (.iconst 0, 1) := by decide +kernel
theorem dX1_levelOf_93 : decode cX1_levelOf 93 = .ok (.ireturn, 1) := by decide +kernel
theorem dX1_levelOf_94 : decode cX1_levelOf 94 = .ok (.iconst 1, 1) := by decide +kernel
theorem dX1_levelOf_95 : decode cX1_levelOf 95 = .ok (.ireturn, 1) := by decide +kernel
theorem dX1_levelOf_96 : decode cX1_levelOf 96 = .ok (.iconst 2, 1) := by decide +kernel
theorem dX1_levelOf_97 : decode cX1_levelOf 97 = .ok (.ireturn, 1) := by decide +kernel
theorem dX1_levelOf_98 : decode cX1_levelOf 98 = .ok (.iconst 3, 1) := by decide +kernel
theorem dX1_levelOf_99 : decode cX1_levelOf 99 = .ok (.ireturn, 1) := by decide +kernel
theorem dX1_levelOf_100 : decode cX1_levelOf 100 = .ok (.iconst 4, 1) := by decide +kernel
theorem dX1_levelOf_101 : decode cX1_levelOf 101 = .ok (.ireturn, 1) := by decide +kernel
theorem dX1_levelOf_102 : decode cX1_levelOf 102 = .ok (.iconst (-1), 1) := by decide +kernel
theorem dX1_levelOf_103 : decode cX1_levelOf 103 = .ok (.ireturn, 1) := by decide +kernel
theorem dX1_nameOf_0 : decode cX1_nameOf 0 = .ok (.iload_n 1, 1) := by decide +kernel
theorem dX1_nameOf_1 : decode cX1_nameOf 1 = .ok (.lookupswitch 140 #[(99, 59), (100, 98), (104, 85), (108, 126), (111, 72), (119, 112)], 59) := by decide +kernel
theorem dX1_nameOf_60 : decode cX1_nameOf 60 = .ok (.aload_n 0, 1) := by decide +kernel
theorem dX1_nameOf_61 : decode cX1_nameOf 61 = .ok (.getfield 28, 3) := by decide +kernel
theorem dX1_nameOf_64 : decode cX1_nameOf 64 = .ok (.ifCond .ne 7, 3) := by decide +kernel
theorem dX1_nameOf_67 : decode cX1_nameOf 67 = .ok (.iconst 1, 1) := by decide +kernel
theorem dX1_nameOf_68 : decode cX1_nameOf 68 = .ok (.goto 4, 3) := by decide +kernel
theorem dX1_nameOf_71 : decode cX1_nameOf 71 = .ok (.iconst 0, 1) := by decide +kernel
theorem dX1_nameOf_72 : decode cX1_nameOf 72 = .ok (.ireturn, 1) := by decide +kernel
theorem dX1_nameOf_73 : decode cX1_nameOf 73 = .ok (.aload_n 0, 1) := by decide +kernel
theorem dX1_nameOf_74 : decode cX1_nameOf 74 = .ok (.getfield 28, 3) := by decide +kernel
theorem dX1_nameOf_77 : decode cX1_nameOf 77 = .ok (.ifCond .ne 7, 3) := by decide +kernel
theorem dX1_nameOf_80 : decode cX1_nameOf 80 = .ok (.iconst 2, 1) := by decide +kernel
theorem dX1_nameOf_81 : decode cX1_nameOf 81 = .ok (.goto 4, 3) := by decide +kernel
theorem dX1_nameOf_84 : decode cX1_nameOf 84 = .ok (.iconst 0, 1) := by decide +kernel
theorem dX1_nameOf_85 : decode cX1_nameOf 85 = .ok (.ireturn, 1) := by decide +kernel
theorem dX1_nameOf_86 : decode cX1_nameOf 86 = .ok (.aload_n 0, 1) := by decide +kernel
theorem dX1_nameOf_87 : decode cX1_nameOf 87 = .ok (.getfield 28, 3) := by decide +kernel
theorem dX1_nameOf_90 : decode cX1_nameOf 90 = .ok (.ifCond .ne 7, 3) := by decide +kernel
theorem dX1_nameOf_93 : decode cX1_nameOf 93 = .ok (.iconst 3, 1) := by decide +kernel
theorem dX1_nameOf_94 : decode cX1_nameOf 94 = .ok (.goto 4, 3) := by decide +kernel
theorem dX1_nameOf_97 : decode cX1_nameOf 97 = .ok (.iconst 0, 1) := by decide +kernel
theorem dX1_nameOf_98 : decode cX1_nameOf 98 = .ok (.ireturn, 1) := by decide +kernel
theorem dX1_nameOf_99 : decode cX1_nameOf 99 = .ok (.aload_n 0, 1) := by decide +kernel
theorem dX1_nameOf_100 : decode cX1_nameOf 100 = .ok (.getfield 28, 3) := by decide +kernel
theorem dX1_nameOf_103 : decode cX1_nameOf 103 = .ok (.iconst 1, 1) := by decide +kernel
theorem dX1_nameOf_104 : decode cX1_nameOf 104 = .ok (.if_icmp .ne 7, 3) := by decide +kernel
theorem dX1_nameOf_107 : decode cX1_nameOf 107 = .ok (.iconst 1, 1) := by decide +kernel
theorem dX1_nameOf_108 : decode cX1_nameOf 108 = .ok (.goto 4, 3) := by decide +kernel
theorem dX1_nameOf_111 : decode cX1_nameOf 111 = .ok (.iconst 0, 1) := by decide +kernel
theorem dX1_nameOf_112 : decode cX1_nameOf 112 = .ok (.ireturn, 1) := by decide +kernel
theorem dX1_nameOf_113 : decode cX1_nameOf 113 = .ok (.aload_n 0, 1) := by decide +kernel
theorem dX1_nameOf_114 : decode cX1_nameOf 114 = .ok (.getfield 28, 3) := by decide +kernel
theorem dX1_nameOf_117 : decode cX1_nameOf 117 = .ok (.iconst 1, 1) := by decide +kernel
theorem dX1_nameOf_118 : decode cX1_nameOf 118 = .ok (.if_icmp .ne 7, 3) := by decide +kernel
theorem dX1_nameOf_121 : decode cX1_nameOf 121 = .ok (.iconst 2, 1) := by decide +kernel
theorem dX1_nameOf_122 : decode cX1_nameOf 122 = .ok (.goto 4, 3) := by decide +kernel
theorem dX1_nameOf_125 : decode cX1_nameOf 125 = .ok (.iconst 0, 1) := by decide +kernel
theorem dX1_nameOf_126 : decode cX1_nameOf 126 = .ok (.ireturn, 1) := by decide +kernel
theorem dX1_nameOf_127 : decode cX1_nameOf 127 = .ok (.aload_n 0, 1) := by decide +kernel
theorem dX1_nameOf_128 : decode cX1_nameOf 128 = .ok (.getfield 28, 3) := by decide +kernel
theorem dX1_nameOf_131 : decode cX1_nameOf 131 = .ok (.iconst 1, 1) := by decide +kernel
theorem dX1_nameOf_132 : decode cX1_nameOf 132 = .ok (.if_icmp .ne 7, 3) := by decide +kernel
theorem dX1_nameOf_135 : decode cX1_nameOf 135 = .ok (.iconst 3, 1) := by decide +kernel
theorem dX1_nameOf_136 : decode cX1_nameOf 136 = .ok (.goto 4, 3) := by decide +kernel
theorem dX1_nameOf_139 : decode cX1_nameOf 139 = .ok (.iconst 0, 1) := by decide +kernel
theorem dX1_nameOf_140 : decode cX1_nameOf 140 = .ok (.ireturn, 1) := by decide +kernel
theorem dX1_nameOf_141 : decode cX1_nameOf 141 = .ok (.iconst 0, 1) := by decide +kernel
theorem dX1_nameOf_142 : decode cX1_nameOf 142 = .ok (.ireturn, 1) := by decide +kernel
theorem dX2_init_0 : decode cX2_init 0 = .ok (.aload_n 0, 1) := by decide +kernel
theorem dX2_init_1 : decode cX2_init 1 = .ok (.invokespecial 3, 3) := by decide +kernel
theorem dX2_init_4 : decode cX2_init 4 = .ok (.aload_n 0, 1) := by decide +kernel
theorem dX2_init_5 : decode cX2_init 5 = .ok (.bipush 40, 2) := by decide +kernel
theorem dX2_init_7 : decode cX2_init 7 = .ok (.newarray .int, 2) := by decide +kernel
theorem dX2_init_9 : decode cX2_init 9 = .ok (.putfield 9, 3) := by decide +kernel
theorem dX2_init_12 : decode cX2_init 12 = .ok (.return_, 1) := by decide +kernel
theorem dX2_lay_0 : decode cX2_lay 0 = .ok (.aload_n 0, 1) := by decide +kernel
theorem dX2_lay_1 : decode cX2_lay 1 = .ok (.iload_n 1, 1) := by decide +kernel
theorem dX2_lay_2 : decode cX2_lay 2 = .ok (.putfield 15, 3) := by decide +kernel
theorem dX2_lay_5 : decode cX2_lay 5 = .ok (.aload_n 0, 1) := by decide +kernel
theorem dX2_lay_6 : decode cX2_lay 6 = .ok (.iload_n 2, 1) := by decide +kernel
theorem dX2_lay_7 : decode cX2_lay 7 = .ok (.aload_n 0, 1) := by decide +kernel
theorem dX2_lay_8 : decode cX2_lay 8 = .ok (.getfield 9, 3) := by decide +kernel
theorem dX2_lay_11 : decode cX2_lay 11 = .ok (.arraylength, 1) := by decide +kernel
theorem dX2_lay_12 : decode cX2_lay 12 = .ok (.invokestatic 19, 3) := by decide +kernel
theorem dX2_lay_15 : decode cX2_lay 15 = .ok (.putfield 25, 3) := by decide +kernel
theorem dX2_lay_18 : decode cX2_lay 18 = .ok (.iconst 0, 1) := by decide +kernel
theorem dX2_lay_19 : decode cX2_lay 19 = .ok (.istore_n 3, 1) := by decide +kernel
theorem dX2_lay_20 : decode cX2_lay 20 = .ok (.iload_n 3, 1) := by decide +kernel
theorem dX2_lay_21 : decode cX2_lay 21 = .ok (.aload_n 0, 1) := by decide +kernel
theorem dX2_lay_22 : decode cX2_lay 22 = .ok (.getfield 9, 3) := by decide +kernel
theorem dX2_lay_25 : decode cX2_lay 25 = .ok (.arraylength, 1) := by decide +kernel
theorem dX2_lay_26 : decode cX2_lay 26 = .ok (.if_icmp .ge 16, 3) := by decide +kernel
theorem dX2_lay_29 : decode cX2_lay 29 = .ok (.aload_n 0, 1) := by decide +kernel
theorem dX2_lay_30 : decode cX2_lay 30 = .ok (.getfield 9, 3) := by decide +kernel
theorem dX2_lay_33 : decode cX2_lay 33 = .ok (.iload_n 3, 1) := by decide +kernel
theorem dX2_lay_34 : decode cX2_lay 34 = .ok (.iconst 0, 1) := by decide +kernel
theorem dX2_lay_35 : decode cX2_lay 35 = .ok (.iastore, 1) := by decide +kernel
theorem dX2_lay_36 : decode cX2_lay 36 = .ok (.iinc 3 1, 3) := by decide +kernel
theorem dX2_lay_39 : decode cX2_lay 39 = .ok (.goto (-19), 3) := by decide +kernel
theorem dX2_lay_42 : decode cX2_lay 42 = .ok (.return_, 1) := by decide +kernel
theorem dX2_write_0 : decode cX2_write 0 = .ok (.iload_n 1, 1) := by decide +kernel
theorem dX2_write_1 : decode cX2_write 1 = .ok (.ifCond .lt 51, 3) := by decide +kernel
theorem dX2_write_4 : decode cX2_write 4 = .ok (.iload_n 1, 1) := by decide +kernel
theorem dX2_write_5 : decode cX2_write 5 = .ok (.aload_n 0, 1) := by decide +kernel
theorem dX2_write_6 : decode cX2_write 6 = .ok (.getfield 25, 3) := by decide +kernel
theorem dX2_write_9 : decode cX2_write 9 = .ok (.if_icmp .ge 43, 3) := by decide +kernel
theorem dX2_write_12 : decode cX2_write 12 = .ok (.aload_n 0, 1) := by decide +kernel
theorem dX2_write_13 : decode cX2_write 13 = .ok (.getfield 9, 3) := by decide +kernel
theorem dX2_write_16 : decode cX2_write 16 = .ok (.iload_n 1, 1) := by decide +kernel
theorem dX2_write_17 : decode cX2_write 17 = .ok (.aload_n 0, 1) := by decide +kernel
theorem dX2_write_18 : decode cX2_write 18 = .ok (.getfield 15, 3) := by decide +kernel
theorem dX2_write_21 : decode cX2_write 21 = .ok (.bipush 8, 2) := by decide +kernel
theorem dX2_write_23 : decode cX2_write 23 = .ok (.if_icmp .ne 11, 3) := by decide +kernel
theorem dX2_write_26 : decode cX2_write 26 = .ok (.iload_n 2, 1) := by decide +kernel
theorem dX2_write_27 : decode cX2_write 27 = .ok (.sipush 255, 3) := by decide +kernel
theorem dX2_write_30 : decode cX2_write 30 = .ok (.iand, 1) := by decide +kernel
theorem dX2_write_31 : decode cX2_write 31 = .ok (.goto 20, 3) := by decide +kernel
theorem dX2_write_34 : decode cX2_write 34 = .ok (.aload_n 0, 1) := by decide +kernel
theorem dX2_write_35 : decode cX2_write 35 = .ok (.getfield 15, 3) := by decide +kernel
theorem dX2_write_38 : decode cX2_write 38 = .ok (.bipush 16, 2) := by decide +kernel
theorem dX2_write_40 : decode cX2_write 40 = .ok (.if_icmp .ne 10, 3) := by decide +kernel
theorem dX2_write_43 : decode cX2_write 43 = .ok (.iload_n 2, 1) := by decide +kernel
theorem dX2_write_44 : decode cX2_write 44 = .ok (.ldc 28, 2) := by decide +kernel
theorem dX2_write_46 : decode cX2_write 46 = .ok (.iand, 1) := by decide +kernel
theorem dX2_write_47 : decode cX2_write 47 = .ok (.goto 4, 3) := by decide +kernel
theorem dX2_write_50 : decode cX2_write 50 = .ok (.iload_n 2, 1) := by decide +kernel
theorem dX2_write_51 : decode cX2_write 51 = .ok (.iastore, 1) := by decide +kernel
theorem dX2_write_52 : decode cX2_write 52 = .ok (.return_, 1) := by decide +kernel
theorem dX2_holds_0 : decode cX2_holds 0 = .ok (.iload_n 2, 1) := by decide +kernel
theorem dX2_holds_1 : decode cX2_holds 1 = .ok (.ifCond .lt 29, 3) := by decide +kernel
theorem dX2_holds_4 : decode cX2_holds 4 = .ok (.iload_n 2, 1) := by decide +kernel
theorem dX2_holds_5 : decode cX2_holds 5 = .ok (.aload_n 0, 1) := by decide +kernel
theorem dX2_holds_6 : decode cX2_holds 6 = .ok (.getfield 25, 3) := by decide +kernel
theorem dX2_holds_9 : decode cX2_holds 9 = .ok (.if_icmp .gt 21, 3) := by decide +kernel
theorem dX2_holds_12 : decode cX2_holds 12 = .ok (.iload_n 1, 1) := by decide +kernel
theorem dX2_holds_13 : decode cX2_holds 13 = .ok (.ifCond .lt 17, 3) := by decide +kernel
theorem dX2_holds_16 : decode cX2_holds 16 = .ok (.iload_n 1, 1) := by decide +kernel
theorem dX2_holds_17 : decode cX2_holds 17 = .ok (.aload_n 0, 1) := by decide +kernel
theorem dX2_holds_18 : decode cX2_holds 18 = .ok (.getfield 25, 3) := by decide +kernel
theorem dX2_holds_21 : decode cX2_holds 21 = .ok (.iload_n 2, 1) := by decide +kernel
theorem dX2_holds_22 : decode cX2_holds 22 = .ok (.isub, 1) := by decide +kernel
theorem dX2_holds_23 : decode cX2_holds 23 = .ok (.if_icmp .gt 7, 3) := by decide +kernel
theorem dX2_holds_26 : decode cX2_holds 26 = .ok (.iconst 1, 1) := by decide +kernel
theorem dX2_holds_27 : decode cX2_holds 27 = .ok (.goto 4, 3) := by decide +kernel
theorem dX2_holds_30 : decode cX2_holds 30 = .ok (.iconst 0, 1) := by decide +kernel
theorem dX2_holds_31 : decode cX2_holds 31 = .ok (.ireturn, 1) := by decide +kernel
theorem dX3_init_0 : decode cX3_init 0 = .ok (.aload_n 0, 1) := by decide +kernel
theorem dX3_init_1 : decode cX3_init 1 = .ok (.invokespecial 3, 3) := by decide +kernel
theorem dX3_init_4 : decode cX3_init 4 = .ok (.aload_n 0, 1) := by decide +kernel
theorem dX3_init_5 : decode cX3_init 5 = .ok (.bipush 50, 2) := by decide +kernel
theorem dX3_init_7 : decode cX3_init 7 = .ok (.newarray .int, 2) := by decide +kernel
theorem dX3_init_9 : decode cX3_init 9 = .ok (.putfield 9, 3) := by decide +kernel
theorem dX3_init_12 : decode cX3_init 12 = .ok (.aload_n 0, 1) := by decide +kernel
theorem dX3_init_13 : decode cX3_init 13 = .ok (.bipush 50, 2) := by decide +kernel
theorem dX3_init_15 : decode cX3_init 15 = .ok (.newarray .int, 2) := by decide +kernel
theorem dX3_init_17 : decode cX3_init 17 = .ok (.putfield 15, 3) := by decide +kernel
theorem dX3_init_20 : decode cX3_init 20 = .ok (.aload_n 0, 1) := by decide +kernel
theorem dX3_init_21 : decode cX3_init 21 = .ok (.iload_n 1, 1) := by decide +kernel
theorem dX3_init_22 : decode cX3_init 22 = .ok (.putfield 18, 3) := by decide +kernel
theorem dX3_init_25 : decode cX3_init 25 = .ok (.return_, 1) := by decide +kernel
theorem dX3_take_0 : decode cX3_take 0 = .ok (.aload_n 0, 1) := by decide +kernel
theorem dX3_take_1 : decode cX3_take 1 = .ok (.iload_n 2, 1) := by decide +kernel
theorem dX3_take_2 : decode cX3_take 2 = .ok (.bipush 50, 2) := by decide +kernel
theorem dX3_take_4 : decode cX3_take 4 = .ok (.invokestatic 22, 3) := by decide +kernel
theorem dX3_take_7 : decode cX3_take 7 = .ok (.putfield 28, 3) := by decide +kernel
theorem dX3_take_10 : decode cX3_take 10 = .ok (.iconst 0, 1) := by decide +kernel
theorem dX3_take_11 : decode cX3_take 11 = .ok (.istore_n 3, 1) := by decide +kernel
theorem dX3_take_12 : decode cX3_take 12 = .ok (.iload_n 3, 1) := by decide +kernel
theorem dX3_take_13 : decode cX3_take 13 = .ok (.aload_n 0, 1) := by decide +kernel
theorem dX3_take_14 : decode cX3_take 14 = .ok (.getfield 28, 3) := by decide +kernel
theorem dX3_take_17 : decode cX3_take 17 = .ok (.if_icmp .ge 24, 3) := by decide +kernel
theorem dX3_take_20 : decode cX3_take 20 = .ok (.iload_n 3, 1) := by decide +kernel
theorem dX3_take_21 : decode cX3_take 21 = .ok (.aload_n 1, 1) := by decide +kernel
theorem dX3_take_22 : decode cX3_take 22 = .ok (.arraylength, 1) := by decide +kernel
theorem dX3_take_23 : decode cX3_take 23 = .ok (.if_icmp .ge 18, 3) := by decide +kernel
theorem dX3_take_26 : decode cX3_take 26 = .ok (.aload_n 0, 1) := by decide +kernel
theorem dX3_take_27 : decode cX3_take 27 = .ok (.getfield 9, 3) := by decide +kernel
theorem dX3_take_30 : decode cX3_take 30 = .ok (.iload_n 3, 1) := by decide +kernel
theorem dX3_take_31 : decode cX3_take 31 = .ok (.aload_n 1, 1) := by decide +kernel
theorem dX3_take_32 : decode cX3_take 32 = .ok (.iload_n 3, 1) := by decide +kernel
theorem dX3_take_33 : decode cX3_take 33 = .ok (.iaload, 1) := by decide +kernel
theorem dX3_take_34 : decode cX3_take 34 = .ok (.iastore, 1) := by decide +kernel
theorem dX3_take_35 : decode cX3_take 35 = .ok (.iinc 3 1, 3) := by decide +kernel
theorem dX3_take_38 : decode cX3_take 38 = .ok (.goto (-26), 3) := by decide +kernel
theorem dX3_take_41 : decode cX3_take 41 = .ok (.return_, 1) := by decide +kernel
theorem dX3_gives_0 : decode cX3_gives 0 = .ok (.aload_n 0, 1) := by decide +kernel
theorem dX3_gives_1 : decode cX3_gives 1 = .ok (.getfield 28, 3) := by decide +kernel
theorem dX3_gives_4 : decode cX3_gives 4 = .ok (.ifCond .le 15, 3) := by decide +kernel
theorem dX3_gives_7 : decode cX3_gives 7 = .ok (.aload_n 0, 1) := by decide +kernel
theorem dX3_gives_8 : decode cX3_gives 8 = .ok (.iload_n 1, 1) := by decide +kernel
theorem dX3_gives_9 : decode cX3_gives 9 = .ok (.iload_n 2, 1) := by decide +kernel
theorem dX3_gives_10 : decode cX3_gives 10 = .ok (.iload_n 3, 1) := by decide +kernel
theorem dX3_gives_11 : decode cX3_gives 11 = .ok (.invokevirtual 31, 3) := by decide +kernel
theorem dX3_gives_14 : decode cX3_gives 14 = .ok (.istore 4, 2) := by decide +kernel
theorem dX3_gives_16 : decode cX3_gives 16 = .ok (.goto 21, 3) := by decide +kernel
theorem dX3_gives_19 : decode cX3_gives 19 = .ok (.aload_n 0, 1) := by decide +kernel
theorem dX3_gives_20 : decode cX3_gives 20 = .ok (.getfield 18, 3) := by decide +kernel
theorem dX3_gives_23 : decode cX3_gives 23 = .ok (.ifCond .ne 11, 3) := by decide +kernel
theorem dX3_gives_26 : decode cX3_gives 26 = .ok (.iload_n 1, 1) := by decide +kernel
theorem dX3_gives_27 : decode cX3_gives 27 = .ok (.iload_n 2, 1) := by decide +kernel
theorem dX3_gives_28 : decode cX3_gives 28 = .ok (.imul, 1) := by decide +kernel
theorem dX3_gives_29 : decode cX3_gives 29 = .ok (.iconst 2, 1) := by decide +kernel
theorem dX3_gives_30 : decode cX3_gives 30 = .ok (.idiv, 1) := by decide +kernel
theorem dX3_gives_31 : decode cX3_gives 31 = .ok (.goto 4, 3) := by decide +kernel
theorem dX3_gives_34 : decode cX3_gives 34 = .ok (.iload_n 2, 1) := by decide +kernel
theorem dX3_gives_35 : decode cX3_gives 35 = .ok (.istore 4, 2) := by decide +kernel
theorem dX3_gives_37 : decode cX3_gives 37 = .ok (.iconst 0, 1) := by decide +kernel
theorem dX3_gives_38 : decode cX3_gives 38 = .ok (.bipush 99, 2) := by decide +kernel
theorem dX3_gives_40 : decode cX3_gives 40 = .ok (.iload 4, 2) := by decide +kernel
theorem dX3_gives_42 : decode cX3_gives 42 = .ok (.invokestatic 22, 3) := by decide +kernel
theorem dX3_gives_45 : decode cX3_gives 45 = .ok (.invokestatic 35, 3) := by decide +kernel
theorem dX3_gives_48 : decode cX3_gives 48 = .ok (.ireturn, 1) := by decide +kernel
theorem dX3_workOut_0 : decode cX3_workOut 0 = .ok (.iconst 0, 1) := by decide +kernel
theorem dX3_workOut_1 : decode cX3_workOut 1 = .ok (.istore 4, 2) := by decide +kernel
theorem dX3_workOut_3 : decode cX3_workOut 3 = .ok (.iconst 0, 1) := by decide +kernel
theorem dX3_workOut_4 : decode cX3_workOut 4 = .ok (.istore 5, 2) := by decide +kernel
theorem dX3_workOut_6 : decode cX3_workOut 6 = .ok (.iload 5, 2) := by decide +kernel
theorem dX3_workOut_8 : decode cX3_workOut 8 = .ok (.aload_n 0, 1) := by decide +kernel
theorem dX3_workOut_9 : decode cX3_workOut 9 = .ok (.getfield 28, 3) := by decide +kernel
theorem dX3_workOut_12 : decode cX3_workOut 12 = .ok (.if_icmp .ge 166, 3) := by decide +kernel
theorem dX3_workOut_15 : decode cX3_workOut 15 = .ok (.aload_n 0, 1) := by decide +kernel
theorem dX3_workOut_16 : decode cX3_workOut 16 = .ok (.getfield 9, 3) := by decide +kernel
theorem dX3_workOut_19 : decode cX3_workOut 19 = .ok (.iload 5, 2) := by decide +kernel
theorem dX3_workOut_21 : decode cX3_workOut 21 = .ok (.iaload, 1) := by decide +kernel
theorem dX3_workOut_22 : decode cX3_workOut 22 = .ok (.istore 6, 2) := by decide +kernel
theorem dX3_workOut_24 : decode cX3_workOut 24 = .ok (.iload 6, 2) := by decide +kernel
theorem dX3_workOut_26 : decode cX3_workOut 26 = .ok (.bipush (-3), 2) := by decide +kernel
theorem dX3_workOut_28 : decode cX3_workOut 28 = .ok (.if_icmp .lt 62, 3) := by decide +kernel
theorem dX3_workOut_31 : decode cX3_workOut 31 = .ok (.iload 4, 2) := by decide +kernel
theorem dX3_workOut_33 : decode cX3_workOut 33 = .ok (.aload_n 0, 1) := by decide +kernel
theorem dX3_workOut_34 : decode cX3_workOut 34 = .ok (.getfield 15, 3) := by decide +kernel
theorem dX3_workOut_37 : decode cX3_workOut 37 = .ok (.arraylength, 1) := by decide +kernel
theorem dX3_workOut_38 : decode cX3_workOut 38 = .ok (.if_icmp .lt 5, 3) := by decide +kernel
theorem dX3_workOut_41 : decode cX3_workOut 41 = .ok (.iconst 0, 1) := by decide +kernel
theorem dX3_workOut_42 : decode cX3_workOut 42 = .ok (.ireturn, 1) := by decide +kernel
theorem dX3_workOut_43 : decode cX3_workOut 43 = .ok (.aload_n 0, 1) := by decide +kernel
theorem dX3_workOut_44 : decode cX3_workOut 44 = .ok (.getfield 15, 3) := by decide +kernel
theorem dX3_workOut_47 : decode cX3_workOut 47 = .ok (.iload 4, 2) := by decide +kernel
theorem dX3_workOut_49 : decode cX3_workOut 49 = .ok (.iload 6, 2) := by decide +kernel
theorem dX3_workOut_51 : decode cX3_workOut 51 = .ok (.iconst (-1), 1) := by decide +kernel
theorem dX3_workOut_52 : decode cX3_workOut 52 = .ok (.if_icmp .ne 7, 3) := by decide +kernel
theorem dX3_workOut_55 : decode cX3_workOut 55 = .ok (.iload_n 1, 1) := by decide +kernel
theorem dX3_workOut_56 : decode cX3_workOut 56 = .ok (.goto 27, 3) := by decide +kernel
theorem dX3_workOut_59 : decode cX3_workOut 59 = .ok (.iload 6, 2) := by decide +kernel
theorem dX3_workOut_61 : decode cX3_workOut 61 = .ok (.bipush (-2), 2) := by decide +kernel
theorem dX3_workOut_63 : decode cX3_workOut 63 = .ok (.if_icmp .ne 7, 3) := by decide +kernel
theorem dX3_workOut_66 : decode cX3_workOut 66 = .ok (.iload_n 2, 1) := by decide +kernel
theorem dX3_workOut_67 : decode cX3_workOut 67 = .ok (.goto 16, 3) := by decide +kernel
theorem dX3_workOut_70 : decode cX3_workOut 70 = .ok (.iload 6, 2) := by decide +kernel
theorem dX3_workOut_72 : decode cX3_workOut 72 = .ok (.bipush (-3), 2) := by decide +kernel
theorem dX3_workOut_74 : decode cX3_workOut 74 = .ok (.if_icmp .ne 7, 3) := by decide +kernel
theorem dX3_workOut_77 : decode cX3_workOut 77 = .ok (.iload_n 3, 1) := by decide +kernel
theorem dX3_workOut_78 : decode cX3_workOut 78 = .ok (.goto 5, 3) := by decide +kernel
theorem dX3_workOut_81 : decode cX3_workOut 81 = .ok (.iload 6, 2) := by decide +kernel
theorem dX3_workOut_83 : decode cX3_workOut 83 = .ok (.iastore, 1) := by decide +kernel
theorem dX3_workOut_84 : decode cX3_workOut 84 = .ok (.iinc 4 1, 3) := by decide +kernel
theorem dX3_workOut_87 : decode cX3_workOut 87 = .ok (.goto 85, 3) := by decide +kernel
theorem dX3_workOut_90 : decode cX3_workOut 90 = .ok (.iload 6, 2) := by decide +kernel
theorem dX3_workOut_92 : decode cX3_workOut 92 = .ok (.bipush (-33), 2) := by decide +kernel
theorem dX3_workOut_94 : decode cX3_workOut 94 = .ok (.if_icmp .ne 38, 3) := by decide +kernel
theorem dX3_workOut_97 : decode cX3_workOut 97 = .ok (.iload 4, 2) := by decide +kernel
theorem dX3_workOut_99 : decode cX3_workOut 99 = .ok (.iconst 1, 1) := by decide +kernel
theorem dX3_workOut_100 : decode cX3_workOut 100 = .ok (.if_icmp .lt 32, 3) := by decide +kernel
theorem dX3_workOut_103 : decode cX3_workOut 103 = .ok (.aload_n 0, 1) := by decide +kernel
theorem dX3_workOut_104 : decode cX3_workOut 104 = .ok (.getfield 15, 3) := by decide +kernel
theorem dX3_workOut_107 : decode cX3_workOut 107 = .ok (.iload 4, 2) := by decide +kernel
theorem dX3_workOut_109 : decode cX3_workOut 109 = .ok (.iconst 1, 1) := by decide +kernel
theorem dX3_workOut_110 : decode cX3_workOut 110 = .ok (.isub, 1) := by decide +kernel
theorem dX3_workOut_111 : decode cX3_workOut 111 = .ok (.aload_n 0, 1) := by decide +kernel
theorem dX3_workOut_112 : decode cX3_workOut 112 = .ok (.getfield 15, 3) := by decide +kernel
theorem dX3_workOut_115 : decode cX3_workOut 115 = .ok (.iload 4, 2) := by decide +kernel
theorem dX3_workOut_117 : decode cX3_workOut 117 = .ok (.iconst 1, 1) := by decide +kernel
theorem dX3_workOut_118 : decode cX3_workOut 118 = .ok (.isub, 1) := by decide +kernel
theorem dX3_workOut_119 : decode cX3_workOut 119 = .ok (.iaload, 1) := by decide +kernel
theorem dX3_workOut_120 : decode cX3_workOut 120 = .ok (.ifCond .ne 7, 3) := by decide +kernel
theorem dX3_workOut_123 : decode cX3_workOut 123 = .ok (.iconst 1, 1) := by decide +kernel
theorem dX3_workOut_124 : decode cX3_workOut 124 = .ok (.goto 4, 3) := by decide +kernel
theorem dX3_workOut_127 : decode cX3_workOut 127 = .ok (.iconst 0, 1) := by decide +kernel
theorem dX3_workOut_128 : decode cX3_workOut 128 = .ok (.iastore, 1) := by decide +kernel
theorem dX3_workOut_129 : decode cX3_workOut 129 = .ok (.goto 43, 3) := by decide +kernel
theorem dX3_workOut_132 : decode cX3_workOut 132 = .ok (.iload 4, 2) := by decide +kernel
theorem dX3_workOut_134 : decode cX3_workOut 134 = .ok (.iconst 2, 1) := by decide +kernel
theorem dX3_workOut_135 : decode cX3_workOut 135 = .ok (.if_icmp .lt 37, 3) := by decide +kernel
theorem dX3_workOut_138 : decode cX3_workOut 138 = .ok (.iinc 4 (-1), 3) := by decide +kernel
theorem dX3_workOut_141 : decode cX3_workOut 141 = .ok (.aload_n 0, 1) := by decide +kernel
theorem dX3_workOut_142 : decode cX3_workOut 142 = .ok (.getfield 15, 3) := by decide +kernel
theorem dX3_workOut_145 : decode cX3_workOut 145 = .ok (.iload 4, 2) := by decide +kernel
theorem dX3_workOut_147 : decode cX3_workOut 147 = .ok (.iconst 1, 1) := by decide +kernel
theorem dX3_workOut_148 : decode cX3_workOut 148 = .ok (.isub, 1) := by decide +kernel
theorem dX3_workOut_149 : decode cX3_workOut 149 = .ok (.iload 6, 2) := by decide +kernel
theorem dX3_workOut_151 : decode cX3_workOut 151 = .ok (.ineg, 1) := by decide +kernel
theorem dX3_workOut_152 : decode cX3_workOut 152 = .ok (.aload_n 0, 1) := by decide +kernel
theorem dX3_workOut_153 : decode cX3_workOut 153 = .ok (.getfield 15, 3) := by decide +kernel
theorem dX3_workOut_156 : decode cX3_workOut 156 = .ok (.iload 4, 2) := by decide +kernel
theorem dX3_workOut_158 : decode cX3_workOut 158 = .ok (.iconst 1, 1) := by decide +kernel
theorem dX3_workOut_159 : decode cX3_workOut 159 = .ok (.isub, 1) := by decide +kernel
theorem dX3_workOut_160 : decode cX3_workOut 160 = .ok (.iaload, 1) := by decide +kernel
theorem dX3_workOut_161 : decode cX3_workOut 161 = .ok (.aload_n 0, 1) := by decide +kernel
theorem dX3_workOut_162 : decode cX3_workOut 162 = .ok (.getfield 15, 3) := by decide +kernel
theorem dX3_workOut_165 : decode cX3_workOut 165 = .ok (.iload 4, 2) := by decide +kernel
theorem dX3_workOut_167 : decode cX3_workOut 167 = .ok (.iaload, 1) := by decide +kernel
theorem dX3_workOut_168 : decode cX3_workOut 168 = .ok (.invokestatic 38, 3) := by decide +kernel
theorem dX3_workOut_171 : decode cX3_workOut 171 = .ok (.iastore, 1) := by decide +kernel
theorem dX3_workOut_172 : decode cX3_workOut 172 = .ok (.iinc 5 1, 3) := by decide +kernel
theorem dX3_workOut_175 : decode cX3_workOut 175 = .ok (.goto (-169), 3) := by decide +kernel
theorem dX3_workOut_178 : decode cX3_workOut 178 = .ok (.aload_n 0, 1) := by decide +kernel
theorem dX3_workOut_179 : decode cX3_workOut 179 = .ok (.getfield 15, 3) := by decide +kernel
theorem dX3_workOut_182 : decode cX3_workOut 182 = .ok (.iconst 0, 1) := by decide +kernel
theorem dX3_workOut_183 : decode cX3_workOut 183 = .ok (.iaload, 1) := by decide +kernel
theorem dX3_workOut_184 : decode cX3_workOut 184 = .ok (.ireturn, 1) := by decide +kernel
theorem dX3_apply_0 : decode cX3_apply 0 = .ok (.iload_n 0, 1) := by decide +kernel
theorem dX3_apply_1 : decode cX3_apply 1 = .ok (.lookupswitch 188 #[(37, 176), (38, 105), (42, 160), (43, 152), (45, 156), (47, 164), (60, 119), (61, 130), (62, 141), (124, 91)], 91) := by decide +kernel
theorem dX3_apply_92 : decode cX3_apply 92 = .ok (.iload_n 1, 1) := by decide +kernel
theorem dX3_apply_93 : decode cX3_apply 93 = .ok (.ifCond .ne 7, 3) := by decide +kernel
theorem dX3_apply_96 : decode cX3_apply 96 = .ok (.iload_n 2, 1) := by decide +kernel
theorem dX3_apply_97 : decode cX3_apply 97 = .ok (.ifCond .eq 7, 3) := by decide +kernel
theorem dX3_apply_100 : decode cX3_apply 100 = .ok (.iconst 1, 1) := by decide +kernel
theorem dX3_apply_101 : decode cX3_apply 101 = .ok (.goto 4, 3) := by decide +kernel
theorem dX3_apply_104 : decode cX3_apply 104 = .ok (.iconst 0, 1) := by decide +kernel
theorem dX3_apply_105 : decode cX3_apply 105 = .ok (.ireturn, 1) := by decide +kernel
theorem dX3_apply_106 : decode cX3_apply 106 = .ok (.iload_n 1, 1) := by decide +kernel
theorem dX3_apply_107 : decode cX3_apply 107 = .ok (.ifCond .eq 11, 3) := by decide +kernel
theorem dX3_apply_110 : decode cX3_apply 110 = .ok (.iload_n 2, 1) := by decide +kernel
theorem dX3_apply_111 : decode cX3_apply 111 = .ok (.ifCond .eq 7, 3) := by decide +kernel
theorem dX3_apply_114 : decode cX3_apply 114 = .ok (.iconst 1, 1) := by decide +kernel
theorem dX3_apply_115 : decode cX3_apply 115 = .ok (.goto 4, 3) := by decide +kernel
theorem dX3_apply_118 : decode cX3_apply 118 = .ok (.iconst 0, 1) := by decide +kernel
theorem dX3_apply_119 : decode cX3_apply 119 = .ok (.ireturn, 1) := by decide +kernel
theorem dX3_apply_120 : decode cX3_apply 120 = .ok (.iload_n 1, 1) := by decide +kernel
theorem dX3_apply_121 : decode cX3_apply 121 = .ok (.iload_n 2, 1) := by decide +kernel
theorem dX3_apply_122 : decode cX3_apply 122 = .ok (.if_icmp .ge 7, 3) := by decide +kernel
theorem dX3_apply_125 : decode cX3_apply 125 = .ok (.iconst 1, 1) := by decide +kernel
theorem dX3_apply_126 : decode cX3_apply 126 = .ok (.goto 4, 3) := by decide +kernel
theorem dX3_apply_129 : decode cX3_apply 129 = .ok (.iconst 0, 1) := by decide +kernel
theorem dX3_apply_130 : decode cX3_apply 130 = .ok (.ireturn, 1) := by decide +kernel
theorem dX3_apply_131 : decode cX3_apply 131 = .ok (.iload_n 1, 1) := by decide +kernel
theorem dX3_apply_132 : decode cX3_apply 132 = .ok (.iload_n 2, 1) := by decide +kernel
theorem dX3_apply_133 : decode cX3_apply 133 = .ok (.if_icmp .ne 7, 3) := by decide +kernel
theorem dX3_apply_136 : decode cX3_apply 136 = .ok (.iconst 1, 1) := by decide +kernel
theorem dX3_apply_137 : decode cX3_apply 137 = .ok (.goto 4, 3) := by decide +kernel
theorem dX3_apply_140 : decode cX3_apply 140 = .ok (.iconst 0, 1) := by decide +kernel
theorem dX3_apply_141 : decode cX3_apply 141 = .ok (.ireturn, 1) := by decide +kernel
theorem dX3_apply_142 : decode cX3_apply 142 = .ok (.iload_n 1, 1) := by decide +kernel
theorem dX3_apply_143 : decode cX3_apply 143 = .ok (.iload_n 2, 1) := by decide +kernel
theorem dX3_apply_144 : decode cX3_apply 144 = .ok (.if_icmp .le 7, 3) := by decide +kernel
theorem dX3_apply_147 : decode cX3_apply 147 = .ok (.iconst 1, 1) := by decide +kernel
theorem dX3_apply_148 : decode cX3_apply 148 = .ok (.goto 4, 3) := by decide +kernel
theorem dX3_apply_151 : decode cX3_apply 151 = .ok (.iconst 0, 1) := by decide +kernel
theorem dX3_apply_152 : decode cX3_apply 152 = .ok (.ireturn, 1) := by decide +kernel
theorem dX3_apply_153 : decode cX3_apply 153 = .ok (.iload_n 1, 1) := by decide +kernel
theorem dX3_apply_154 : decode cX3_apply 154 = .ok (.iload_n 2, 1) := by decide +kernel
theorem dX3_apply_155 : decode cX3_apply 155 = .ok (.iadd, 1) := by decide +kernel
theorem dX3_apply_156 : decode cX3_apply 156 = .ok (.ireturn, 1) := by decide +kernel
theorem dX3_apply_157 : decode cX3_apply 157 = .ok (.iload_n 1, 1) := by decide +kernel
theorem dX3_apply_158 : decode cX3_apply 158 = .ok (.iload_n 2, 1) := by decide +kernel
theorem dX3_apply_159 : decode cX3_apply 159 = .ok (.isub, 1) := by decide +kernel
theorem dX3_apply_160 : decode cX3_apply 160 = .ok (.ireturn, 1) := by decide +kernel
theorem dX3_apply_161 : decode cX3_apply 161 = .ok (.iload_n 1, 1) := by decide +kernel
theorem dX3_apply_162 : decode cX3_apply 162 = .ok (.iload_n 2, 1) := by decide +kernel
theorem dX3_apply_163 : decode cX3_apply 163 = .ok (.imul, 1) := by decide +kernel
theorem dX3_apply_164 : decode cX3_apply 164 = .ok (.ireturn, 1) := by decide +kernel
theorem dX3_apply_165 : decode cX3_apply 165 = .ok (.iload_n 2, 1) := by decide +kernel
theorem dX3_apply_166 : decode cX3_apply 166 = .ok (.ifCond .ne 7, 3) := by decide +kernel
theorem dX3_apply_169 : decode cX3_apply 169 = .ok (.iconst 0, 1) := by decide +kernel
theorem dX3_apply_170 : decode cX3_apply 170 = .ok (.goto 6, 3) := by decide +kernel
theorem dX3_apply_173 : decode cX3_apply 173 = .ok (.iload_n 1, 1) := by decide +kernel
theorem dX3_apply_174 : decode cX3_apply 174 = .ok (.iload_n 2, 1) := by decide +kernel
theorem dX3_apply_175 : decode cX3_apply 175 = .ok (.idiv, 1) := by decide +kernel
theorem dX3_apply_176 : decode cX3_apply 176 = .ok (.ireturn, 1) := by decide +kernel
theorem dX3_apply_177 : decode cX3_apply 177 = .ok (.iload_n 2, 1) := by decide +kernel
theorem dX3_apply_178 : decode cX3_apply 178 = .ok (.ifCond .ne 7, 3) := by decide +kernel
theorem dX3_apply_181 : decode cX3_apply 181 = .ok (.iconst 0, 1) := by decide +kernel
theorem dX3_apply_182 : decode cX3_apply 182 = .ok (.goto 6, 3) := by decide +kernel
theorem dX3_apply_185 : decode cX3_apply 185 = .ok (.iload_n 1, 1) := by decide +kernel
theorem dX3_apply_186 : decode cX3_apply 186 = .ok (.iload_n 2, 1) := by decide +kernel
theorem dX3_apply_187 : decode cX3_apply 187 = .ok (.irem, 1) := by decide +kernel
theorem dX3_apply_188 : decode cX3_apply 188 = .ok (.ireturn, 1) := by decide +kernel
theorem dX3_apply_189 : decode cX3_apply 189 = .ok (.iconst 0, 1) := by decide +kernel
theorem dX3_apply_190 : decode cX3_apply 190 = .ok (.ireturn, 1) := by decide +kernel
theorem dX4_init_0 : decode cX4_init 0 = .ok (.aload_n 0, 1) := by decide +kernel
theorem dX4_init_1 : decode cX4_init 1 = .ok (.invokespecial 3, 3) := by decide +kernel
theorem dX4_init_4 : decode cX4_init 4 = .ok (.aload_n 0, 1) := by decide +kernel
theorem dX4_init_5 : decode cX4_init 5 = .ok (.bipush 40, 2) := by decide +kernel
theorem dX4_init_7 : decode cX4_init 7 = .ok (.newarray .int, 2) := by decide +kernel
theorem dX4_init_9 : decode cX4_init 9 = .ok (.putfield 9, 3) := by decide +kernel
theorem dX4_init_12 : decode cX4_init 12 = .ok (.return_, 1) := by decide +kernel
theorem dX4_speak_0 : decode cX4_speak 0 = .ok (.aload_n 0, 1) := by decide +kernel
theorem dX4_speak_1 : decode cX4_speak 1 = .ok (.iload_n 1, 1) := by decide +kernel
theorem dX4_speak_2 : decode cX4_speak 2 = .ok (.putfield 15, 3) := by decide +kernel
theorem dX4_speak_5 : decode cX4_speak 5 = .ok (.aload_n 0, 1) := by decide +kernel
theorem dX4_speak_6 : decode cX4_speak 6 = .ok (.iload_n 2, 1) := by decide +kernel
theorem dX4_speak_7 : decode cX4_speak 7 = .ok (.putfield 19, 3) := by decide +kernel
theorem dX4_speak_10 : decode cX4_speak 10 = .ok (.aload_n 0, 1) := by decide +kernel
theorem dX4_speak_11 : decode cX4_speak 11 = .ok (.iload_n 3, 1) := by decide +kernel
theorem dX4_speak_12 : decode cX4_speak 12 = .ok (.putfield 22, 3) := by decide +kernel
theorem dX4_speak_15 : decode cX4_speak 15 = .ok (.aload_n 0, 1) := by decide +kernel
theorem dX4_speak_16 : decode cX4_speak 16 = .ok (.iconst 0, 1) := by decide +kernel
theorem dX4_speak_17 : decode cX4_speak 17 = .ok (.putfield 25, 3) := by decide +kernel
theorem dX4_speak_20 : decode cX4_speak 20 = .ok (.aload_n 0, 1) := by decide +kernel
theorem dX4_speak_21 : decode cX4_speak 21 = .ok (.aload_n 0, 1) := by decide +kernel
theorem dX4_speak_22 : decode cX4_speak 22 = .ok (.getfield 15, 3) := by decide +kernel
theorem dX4_speak_25 : decode cX4_speak 25 = .ok (.iload 4, 2) := by decide +kernel
theorem dX4_speak_27 : decode cX4_speak 27 = .ok (.iload 5, 2) := by decide +kernel
theorem dX4_speak_29 : decode cX4_speak 29 = .ok (.iconst 0, 1) := by decide +kernel
theorem dX4_speak_30 : decode cX4_speak 30 = .ok (.invokevirtual 28, 3) := by decide +kernel
theorem dX4_speak_33 : decode cX4_speak 33 = .ok (.ireturn, 1) := by decide +kernel
theorem dX4_begin_0 : decode cX4_begin 0 = .ok (.iload_n 1, 1) := by decide +kernel
theorem dX4_begin_1 : decode cX4_begin 1 = .ok (.istore 5, 2) := by decide +kernel
theorem dX4_begin_3 : decode cX4_begin 3 = .ok (.iconst 0, 1) := by decide +kernel
theorem dX4_begin_4 : decode cX4_begin 4 = .ok (.istore 6, 2) := by decide +kernel
theorem dX4_begin_6 : decode cX4_begin 6 = .ok (.iload 6, 2) := by decide +kernel
theorem dX4_begin_8 : decode cX4_begin 8 = .ok (.bipush 7, 2) := by decide +kernel
theorem dX4_begin_10 : decode cX4_begin 10 = .ok (.if_icmp .ge 64, 3) := by decide +kernel
theorem dX4_begin_13 : decode cX4_begin 13 = .ok (.iload 5, 2) := by decide +kernel
theorem dX4_begin_15 : decode cX4_begin 15 = .ok (.ifCond .lt 59, 3) := by decide +kernel
theorem dX4_begin_18 : decode cX4_begin 18 = .ok (.getstatic 32, 3) := by decide +kernel
theorem dX4_begin_21 : decode cX4_begin 21 = .ok (.iconst 4, 1) := by decide +kernel
theorem dX4_begin_22 : decode cX4_begin 22 = .ok (.iload 5, 2) := by decide +kernel
theorem dX4_begin_24 : decode cX4_begin 24 = .ok (.imul, 1) := by decide +kernel
theorem dX4_begin_25 : decode cX4_begin 25 = .ok (.iload_n 2, 1) := by decide +kernel
theorem dX4_begin_26 : decode cX4_begin 26 = .ok (.iadd, 1) := by decide +kernel
theorem dX4_begin_27 : decode cX4_begin 27 = .ok (.iaload, 1) := by decide +kernel
theorem dX4_begin_28 : decode cX4_begin 28 = .ok (.istore 7, 2) := by decide +kernel
theorem dX4_begin_30 : decode cX4_begin 30 = .ok (.iload 7, 2) := by decide +kernel
theorem dX4_begin_32 : decode cX4_begin 32 = .ok (.ifCond .eq 28, 3) := by decide +kernel
theorem dX4_begin_35 : decode cX4_begin 35 = .ok (.iload 4, 2) := by decide +kernel
theorem dX4_begin_37 : decode cX4_begin 37 = .ok (.bipush 20, 2) := by decide +kernel
theorem dX4_begin_39 : decode cX4_begin 39 = .ok (.if_icmp .ge 21, 3) := by decide +kernel
theorem dX4_begin_42 : decode cX4_begin 42 = .ok (.aload_n 0, 1) := by decide +kernel
theorem dX4_begin_43 : decode cX4_begin 43 = .ok (.iload 7, 2) := by decide +kernel
theorem dX4_begin_45 : decode cX4_begin 45 = .ok (.invokevirtual 35, 3) := by decide +kernel
theorem dX4_begin_48 : decode cX4_begin 48 = .ok (.aload_n 0, 1) := by decide +kernel
theorem dX4_begin_49 : decode cX4_begin 49 = .ok (.iload 7, 2) := by decide +kernel
theorem dX4_begin_51 : decode cX4_begin 51 = .ok (.iload_n 3, 1) := by decide +kernel
theorem dX4_begin_52 : decode cX4_begin 52 = .ok (.iload 4, 2) := by decide +kernel
theorem dX4_begin_54 : decode cX4_begin 54 = .ok (.iconst 1, 1) := by decide +kernel
theorem dX4_begin_55 : decode cX4_begin 55 = .ok (.iadd, 1) := by decide +kernel
theorem dX4_begin_56 : decode cX4_begin 56 = .ok (.invokevirtual 39, 3) := by decide +kernel
theorem dX4_begin_59 : decode cX4_begin 59 = .ok (.ireturn, 1) := by decide +kernel
theorem dX4_begin_60 : decode cX4_begin 60 = .ok (.getstatic 43, 3) := by decide +kernel
theorem dX4_begin_63 : decode cX4_begin 63 = .ok (.iload 5, 2) := by decide +kernel
theorem dX4_begin_65 : decode cX4_begin 65 = .ok (.iaload, 1) := by decide +kernel
theorem dX4_begin_66 : decode cX4_begin 66 = .ok (.istore 5, 2) := by decide +kernel
theorem dX4_begin_68 : decode cX4_begin 68 = .ok (.iinc 6 1, 3) := by decide +kernel
theorem dX4_begin_71 : decode cX4_begin 71 = .ok (.goto (-65), 3) := by decide +kernel
theorem dX4_begin_74 : decode cX4_begin 74 = .ok (.iconst 0, 1) := by decide +kernel
theorem dX4_begin_75 : decode cX4_begin 75 = .ok (.ireturn, 1) := by decide +kernel
theorem dX4_note_0 : decode cX4_note 0 = .ok (.aload_n 0, 1) := by decide +kernel
theorem dX4_note_1 : decode cX4_note 1 = .ok (.getfield 25, 3) := by decide +kernel
theorem dX4_note_4 : decode cX4_note 4 = .ok (.aload_n 0, 1) := by decide +kernel
theorem dX4_note_5 : decode cX4_note 5 = .ok (.getfield 9, 3) := by decide +kernel
theorem dX4_note_8 : decode cX4_note 8 = .ok (.arraylength, 1) := by decide +kernel
theorem dX4_note_9 : decode cX4_note 9 = .ok (.if_icmp .ge 23, 3) := by decide +kernel
theorem dX4_note_12 : decode cX4_note 12 = .ok (.aload_n 0, 1) := by decide +kernel
theorem dX4_note_13 : decode cX4_note 13 = .ok (.getfield 9, 3) := by decide +kernel
theorem dX4_note_16 : decode cX4_note 16 = .ok (.aload_n 0, 1) := by decide +kernel
theorem dX4_note_17 : decode cX4_note 17 = .ok (.getfield 25, 3) := by decide +kernel
theorem dX4_note_20 : decode cX4_note 20 = .ok (.iload_n 1, 1) := by decide +kernel
theorem dX4_note_21 : decode cX4_note 21 = .ok (.iastore, 1) := by decide +kernel
theorem dX4_note_22 : decode cX4_note 22 = .ok (.aload_n 0, 1) := by decide +kernel
theorem dX4_note_23 : decode cX4_note 23 = .ok (.dup, 1) := by decide +kernel
theorem dX4_note_24 : decode cX4_note 24 = .ok (.getfield 25, 3) := by decide +kernel
theorem dX4_note_27 : decode cX4_note 27 = .ok (.iconst 1, 1) := by decide +kernel
theorem dX4_note_28 : decode cX4_note 28 = .ok (.iadd, 1) := by decide +kernel
theorem dX4_note_29 : decode cX4_note 29 = .ok (.putfield 25, 3) := by decide +kernel
theorem dX4_note_32 : decode cX4_note 32 = .ok (.return_, 1) := by decide +kernel
theorem dX4_run_0 : decode cX4_run 0 = .ok (.iload_n 1, 1) := by decide +kernel
theorem dX4_run_1 : decode cX4_run 1 = .ok (.lookupswitch 289 #[(10, 99), (11, 106), (12, 120), (13, 127), (20, 151), (30, 165), (40, 180), (50, 205), (51, 223), (60, 248), (70, 273)], 99) := by decide +kernel
theorem dX4_run_100 : decode cX4_run 100 = .ok (.iload_n 2, 1) := by decide +kernel
theorem dX4_run_101 : decode cX4_run 101 = .ok (.aload_n 0, 1) := by decide +kernel
theorem dX4_run_102 : decode cX4_run 102 = .ok (.getfield 22, 3) := by decide +kernel
theorem dX4_run_105 : decode cX4_run 105 = .ok (.iadd, 1) := by decide +kernel
theorem dX4_run_106 : decode cX4_run 106 = .ok (.ireturn, 1) := by decide +kernel
theorem dX4_run_107 : decode cX4_run 107 = .ok (.aload_n 0, 1) := by decide +kernel
theorem dX4_run_108 : decode cX4_run 108 = .ok (.aload_n 0, 1) := by decide +kernel
theorem dX4_run_109 : decode cX4_run 109 = .ok (.getfield 15, 3) := by decide +kernel
theorem dX4_run_112 : decode cX4_run 112 = .ok (.iconst 0, 1) := by decide +kernel
theorem dX4_run_113 : decode cX4_run 113 = .ok (.iload_n 2, 1) := by decide +kernel
theorem dX4_run_114 : decode cX4_run 114 = .ok (.iload_n 3, 1) := by decide +kernel
theorem dX4_run_115 : decode cX4_run 115 = .ok (.invokevirtual 28, 3) := by decide +kernel
theorem dX4_run_118 : decode cX4_run 118 = .ok (.iconst 2, 1) := by decide +kernel
theorem dX4_run_119 : decode cX4_run 119 = .ok (.imul, 1) := by decide +kernel
theorem dX4_run_120 : decode cX4_run 120 = .ok (.ireturn, 1) := by decide +kernel
theorem dX4_run_121 : decode cX4_run 121 = .ok (.iload_n 2, 1) := by decide +kernel
theorem dX4_run_122 : decode cX4_run 122 = .ok (.aload_n 0, 1) := by decide +kernel
theorem dX4_run_123 : decode cX4_run 123 = .ok (.getfield 19, 3) := by decide +kernel
theorem dX4_run_126 : decode cX4_run 126 = .ok (.isub, 1) := by decide +kernel
theorem dX4_run_127 : decode cX4_run 127 = .ok (.ireturn, 1) := by decide +kernel
theorem dX4_run_128 : decode cX4_run 128 = .ok (.aload_n 0, 1) := by decide +kernel
theorem dX4_run_129 : decode cX4_run 129 = .ok (.aload_n 0, 1) := by decide +kernel
theorem dX4_run_130 : decode cX4_run 130 = .ok (.getfield 15, 3) := by decide +kernel
theorem dX4_run_133 : decode cX4_run 133 = .ok (.iconst 1, 1) := by decide +kernel
theorem dX4_run_134 : decode cX4_run 134 = .ok (.iload_n 2, 1) := by decide +kernel
theorem dX4_run_135 : decode cX4_run 135 = .ok (.iload_n 3, 1) := by decide +kernel
theorem dX4_run_136 : decode cX4_run 136 = .ok (.invokevirtual 28, 3) := by decide +kernel
theorem dX4_run_139 : decode cX4_run 139 = .ok (.aload_n 0, 1) := by decide +kernel
theorem dX4_run_140 : decode cX4_run 140 = .ok (.aload_n 0, 1) := by decide +kernel
theorem dX4_run_141 : decode cX4_run 141 = .ok (.getfield 15, 3) := by decide +kernel
theorem dX4_run_144 : decode cX4_run 144 = .ok (.iconst 2, 1) := by decide +kernel
theorem dX4_run_145 : decode cX4_run 145 = .ok (.iload_n 2, 1) := by decide +kernel
theorem dX4_run_146 : decode cX4_run 146 = .ok (.iload_n 3, 1) := by decide +kernel
theorem dX4_run_147 : decode cX4_run 147 = .ok (.invokevirtual 28, 3) := by decide +kernel
theorem dX4_run_150 : decode cX4_run 150 = .ok (.ixor, 1) := by decide +kernel
theorem dX4_run_151 : decode cX4_run 151 = .ok (.ireturn, 1) := by decide +kernel
theorem dX4_run_152 : decode cX4_run 152 = .ok (.aload_n 0, 1) := by decide +kernel
theorem dX4_run_153 : decode cX4_run 153 = .ok (.getstatic 43, 3) := by decide +kernel
theorem dX4_run_156 : decode cX4_run 156 = .ok (.iconst 1, 1) := by decide +kernel
theorem dX4_run_157 : decode cX4_run 157 = .ok (.iaload, 1) := by decide +kernel
theorem dX4_run_158 : decode cX4_run 158 = .ok (.iconst 2, 1) := by decide +kernel
theorem dX4_run_159 : decode cX4_run 159 = .ok (.iload_n 2, 1) := by decide +kernel
theorem dX4_run_160 : decode cX4_run 160 = .ok (.iload_n 3, 1) := by decide +kernel
theorem dX4_run_161 : decode cX4_run 161 = .ok (.invokevirtual 28, 3) := by decide +kernel
theorem dX4_run_164 : decode cX4_run 164 = .ok (.ineg, 1) := by decide +kernel
theorem dX4_run_165 : decode cX4_run 165 = .ok (.ireturn, 1) := by decide +kernel
theorem dX4_run_166 : decode cX4_run 166 = .ok (.aload_n 0, 1) := by decide +kernel
theorem dX4_run_167 : decode cX4_run 167 = .ok (.getstatic 43, 3) := by decide +kernel
theorem dX4_run_170 : decode cX4_run 170 = .ok (.iconst 2, 1) := by decide +kernel
theorem dX4_run_171 : decode cX4_run 171 = .ok (.iaload, 1) := by decide +kernel
theorem dX4_run_172 : decode cX4_run 172 = .ok (.iconst 0, 1) := by decide +kernel
theorem dX4_run_173 : decode cX4_run 173 = .ok (.iload_n 2, 1) := by decide +kernel
theorem dX4_run_174 : decode cX4_run 174 = .ok (.iload_n 3, 1) := by decide +kernel
theorem dX4_run_175 : decode cX4_run 175 = .ok (.invokevirtual 28, 3) := by decide +kernel
theorem dX4_run_178 : decode cX4_run 178 = .ok (.iconst 3, 1) := by decide +kernel
theorem dX4_run_179 : decode cX4_run 179 = .ok (.imul, 1) := by decide +kernel
theorem dX4_run_180 : decode cX4_run 180 = .ok (.ireturn, 1) := by decide +kernel
theorem dX4_run_181 : decode cX4_run 181 = .ok (.aload_n 0, 1) := by decide +kernel
theorem dX4_run_182 : decode cX4_run 182 = .ok (.getstatic 43, 3) := by decide +kernel
theorem dX4_run_185 : decode cX4_run 185 = .ok (.iconst 3, 1) := by decide +kernel
theorem dX4_run_186 : decode cX4_run 186 = .ok (.iaload, 1) := by decide +kernel
theorem dX4_run_187 : decode cX4_run 187 = .ok (.iconst 1, 1) := by decide +kernel
theorem dX4_run_188 : decode cX4_run 188 = .ok (.iload_n 2, 1) := by decide +kernel
theorem dX4_run_189 : decode cX4_run 189 = .ok (.iload_n 3, 1) := by decide +kernel
theorem dX4_run_190 : decode cX4_run 190 = .ok (.invokevirtual 28, 3) := by decide +kernel
theorem dX4_run_193 : decode cX4_run 193 = .ok (.aload_n 0, 1) := by decide +kernel
theorem dX4_run_194 : decode cX4_run 194 = .ok (.aload_n 0, 1) := by decide +kernel
theorem dX4_run_195 : decode cX4_run 195 = .ok (.getfield 15, 3) := by decide +kernel
theorem dX4_run_198 : decode cX4_run 198 = .ok (.iconst 2, 1) := by decide +kernel
theorem dX4_run_199 : decode cX4_run 199 = .ok (.iconst 1, 1) := by decide +kernel
theorem dX4_run_200 : decode cX4_run 200 = .ok (.iload_n 3, 1) := by decide +kernel
theorem dX4_run_201 : decode cX4_run 201 = .ok (.invokevirtual 28, 3) := by decide +kernel
theorem dX4_run_204 : decode cX4_run 204 = .ok (.isub, 1) := by decide +kernel
theorem dX4_run_205 : decode cX4_run 205 = .ok (.ireturn, 1) := by decide +kernel
theorem dX4_run_206 : decode cX4_run 206 = .ok (.aload_n 0, 1) := by decide +kernel
theorem dX4_run_207 : decode cX4_run 207 = .ok (.getstatic 43, 3) := by decide +kernel
theorem dX4_run_210 : decode cX4_run 210 = .ok (.iconst 4, 1) := by decide +kernel
theorem dX4_run_211 : decode cX4_run 211 = .ok (.iaload, 1) := by decide +kernel
theorem dX4_run_212 : decode cX4_run 212 = .ok (.iconst 2, 1) := by decide +kernel
theorem dX4_run_213 : decode cX4_run 213 = .ok (.iload_n 2, 1) := by decide +kernel
theorem dX4_run_214 : decode cX4_run 214 = .ok (.iload_n 3, 1) := by decide +kernel
theorem dX4_run_215 : decode cX4_run 215 = .ok (.invokevirtual 28, 3) := by decide +kernel
theorem dX4_run_218 : decode cX4_run 218 = .ok (.aload_n 0, 1) := by decide +kernel
theorem dX4_run_219 : decode cX4_run 219 = .ok (.getfield 22, 3) := by decide +kernel
theorem dX4_run_222 : decode cX4_run 222 = .ok (.ixor, 1) := by decide +kernel
theorem dX4_run_223 : decode cX4_run 223 = .ok (.ireturn, 1) := by decide +kernel
theorem dX4_run_224 : decode cX4_run 224 = .ok (.aload_n 0, 1) := by decide +kernel
theorem dX4_run_225 : decode cX4_run 225 = .ok (.aload_n 0, 1) := by decide +kernel
theorem dX4_run_226 : decode cX4_run 226 = .ok (.getfield 15, 3) := by decide +kernel
theorem dX4_run_229 : decode cX4_run 229 = .ok (.iconst 1, 1) := by decide +kernel
theorem dX4_run_230 : decode cX4_run 230 = .ok (.iload_n 2, 1) := by decide +kernel
theorem dX4_run_231 : decode cX4_run 231 = .ok (.iload_n 3, 1) := by decide +kernel
theorem dX4_run_232 : decode cX4_run 232 = .ok (.invokevirtual 28, 3) := by decide +kernel
theorem dX4_run_235 : decode cX4_run 235 = .ok (.aload_n 0, 1) := by decide +kernel
theorem dX4_run_236 : decode cX4_run 236 = .ok (.getstatic 43, 3) := by decide +kernel
theorem dX4_run_239 : decode cX4_run 239 = .ok (.iconst 4, 1) := by decide +kernel
theorem dX4_run_240 : decode cX4_run 240 = .ok (.iaload, 1) := by decide +kernel
theorem dX4_run_241 : decode cX4_run 241 = .ok (.iconst 3, 1) := by decide +kernel
theorem dX4_run_242 : decode cX4_run 242 = .ok (.iload_n 2, 1) := by decide +kernel
theorem dX4_run_243 : decode cX4_run 243 = .ok (.iload_n 3, 1) := by decide +kernel
theorem dX4_run_244 : decode cX4_run 244 = .ok (.invokevirtual 28, 3) := by decide +kernel
theorem dX4_run_247 : decode cX4_run 247 = .ok (.isub, 1) := by decide +kernel
theorem dX4_run_248 : decode cX4_run 248 = .ok (.ireturn, 1) := by decide +kernel
theorem dX4_run_249 : decode cX4_run 249 = .ok (.aload_n 0, 1) := by decide +kernel
theorem dX4_run_250 : decode cX4_run 250 = .ok (.getstatic 43, 3) := by decide +kernel
theorem dX4_run_253 : decode cX4_run 253 = .ok (.iconst 5, 1) := by decide +kernel
theorem dX4_run_254 : decode cX4_run 254 = .ok (.iaload, 1) := by decide +kernel
theorem dX4_run_255 : decode cX4_run 255 = .ok (.iconst 3, 1) := by decide +kernel
theorem dX4_run_256 : decode cX4_run 256 = .ok (.iload_n 2, 1) := by decide +kernel
theorem dX4_run_257 : decode cX4_run 257 = .ok (.iload_n 3, 1) := by decide +kernel
theorem dX4_run_258 : decode cX4_run 258 = .ok (.invokevirtual 28, 3) := by decide +kernel
theorem dX4_run_261 : decode cX4_run 261 = .ok (.aload_n 0, 1) := by decide +kernel
theorem dX4_run_262 : decode cX4_run 262 = .ok (.aload_n 0, 1) := by decide +kernel
theorem dX4_run_263 : decode cX4_run 263 = .ok (.getfield 15, 3) := by decide +kernel
theorem dX4_run_266 : decode cX4_run 266 = .ok (.iconst 0, 1) := by decide +kernel
theorem dX4_run_267 : decode cX4_run 267 = .ok (.iconst 2, 1) := by decide +kernel
theorem dX4_run_268 : decode cX4_run 268 = .ok (.iload_n 3, 1) := by decide +kernel
theorem dX4_run_269 : decode cX4_run 269 = .ok (.invokevirtual 28, 3) := by decide +kernel
theorem dX4_run_272 : decode cX4_run 272 = .ok (.isub, 1) := by decide +kernel
theorem dX4_run_273 : decode cX4_run 273 = .ok (.ireturn, 1) := by decide +kernel
theorem dX4_run_274 : decode cX4_run 274 = .ok (.aload_n 0, 1) := by decide +kernel
theorem dX4_run_275 : decode cX4_run 275 = .ok (.getstatic 43, 3) := by decide +kernel
theorem dX4_run_278 : decode cX4_run 278 = .ok (.bipush 6, 2) := by decide +kernel
theorem dX4_run_280 : decode cX4_run 280 = .ok (.iaload, 1) := by decide +kernel
theorem dX4_run_281 : decode cX4_run 281 = .ok (.iconst 1, 1) := by decide +kernel
theorem dX4_run_282 : decode cX4_run 282 = .ok (.iload_n 2, 1) := by decide +kernel
theorem dX4_run_283 : decode cX4_run 283 = .ok (.iconst 1, 1) := by decide +kernel
theorem dX4_run_284 : decode cX4_run 284 = .ok (.iadd, 1) := by decide +kernel
theorem dX4_run_285 : decode cX4_run 285 = .ok (.iload_n 3, 1) := by decide +kernel
theorem dX4_run_286 : decode cX4_run 286 = .ok (.invokevirtual 28, 3) := by decide +kernel
theorem dX4_run_289 : decode cX4_run 289 = .ok (.ireturn, 1) := by decide +kernel
theorem dX4_run_290 : decode cX4_run 290 = .ok (.iconst 0, 1) := by decide +kernel
theorem dX4_run_291 : decode cX4_run 291 = .ok (.ireturn, 1) := by decide +kernel
theorem dX5_init_0 : decode cX5_init 0 = .ok (.aload_n 0, 1) := by decide +kernel
theorem dX5_init_1 : decode cX5_init 1 = .ok (.invokespecial 3, 3) := by decide +kernel
theorem dX5_init_4 : decode cX5_init 4 = .ok (.aload_n 0, 1) := by decide +kernel
theorem dX5_init_5 : decode cX5_init 5 = .ok (.new 9, 3) := by decide +kernel
theorem dX5_init_8 : decode cX5_init 8 = .ok (.dup, 1) := by decide +kernel
theorem dX5_init_9 : decode cX5_init 9 = .ok (.invokespecial 11, 3) := by decide +kernel
theorem dX5_init_12 : decode cX5_init 12 = .ok (.putfield 12, 3) := by decide +kernel
theorem dX5_init_15 : decode cX5_init 15 = .ok (.aload_n 0, 1) := by decide +kernel
theorem dX5_init_16 : decode cX5_init 16 = .ok (.bipush 6, 2) := by decide +kernel
theorem dX5_init_18 : decode cX5_init 18 = .ok (.newarray .int, 2) := by decide +kernel
theorem dX5_init_20 : decode cX5_init 20 = .ok (.putfield 18, 3) := by decide +kernel
theorem dX5_init_23 : decode cX5_init 23 = .ok (.aload_n 0, 1) := by decide +kernel
theorem dX5_init_24 : decode cX5_init 24 = .ok (.bipush 6, 2) := by decide +kernel
theorem dX5_init_26 : decode cX5_init 26 = .ok (.newarray .int, 2) := by decide +kernel
theorem dX5_init_28 : decode cX5_init 28 = .ok (.putfield 22, 3) := by decide +kernel
theorem dX5_init_31 : decode cX5_init 31 = .ok (.aload_n 0, 1) := by decide +kernel
theorem dX5_init_32 : decode cX5_init 32 = .ok (.iconst 5, 1) := by decide +kernel
theorem dX5_init_33 : decode cX5_init 33 = .ok (.putfield 25, 3) := by decide +kernel
theorem dX5_init_36 : decode cX5_init 36 = .ok (.aload_n 0, 1) := by decide +kernel
theorem dX5_init_37 : decode cX5_init 37 = .ok (.iconst 2, 1) := by decide +kernel
theorem dX5_init_38 : decode cX5_init 38 = .ok (.putfield 29, 3) := by decide +kernel
theorem dX5_init_41 : decode cX5_init 41 = .ok (.aload_n 0, 1) := by decide +kernel
theorem dX5_init_42 : decode cX5_init 42 = .ok (.new 32, 3) := by decide +kernel
theorem dX5_init_45 : decode cX5_init 45 = .ok (.dup, 1) := by decide +kernel
theorem dX5_init_46 : decode cX5_init 46 = .ok (.iconst 0, 1) := by decide +kernel
theorem dX5_init_47 : decode cX5_init 47 = .ok (.invokespecial 34, 3) := by decide +kernel
theorem dX5_init_50 : decode cX5_init 50 = .ok (.putfield 37, 3) := by decide +kernel
theorem dX5_init_53 : decode cX5_init 53 = .ok (.aload_n 0, 1) := by decide +kernel
theorem dX5_init_54 : decode cX5_init 54 = .ok (.new 32, 3) := by decide +kernel
theorem dX5_init_57 : decode cX5_init 57 = .ok (.dup, 1) := by decide +kernel
theorem dX5_init_58 : decode cX5_init 58 = .ok (.iconst 1, 1) := by decide +kernel
theorem dX5_init_59 : decode cX5_init 59 = .ok (.invokespecial 34, 3) := by decide +kernel
theorem dX5_init_62 : decode cX5_init 62 = .ok (.putfield 41, 3) := by decide +kernel
theorem dX5_init_65 : decode cX5_init 65 = .ok (.aload_n 0, 1) := by decide +kernel
theorem dX5_init_66 : decode cX5_init 66 = .ok (.bipush 50, 2) := by decide +kernel
theorem dX5_init_68 : decode cX5_init 68 = .ok (.newarray .int, 2) := by decide +kernel
theorem dX5_init_70 : decode cX5_init 70 = .ok (.putfield 44, 3) := by decide +kernel
theorem dX5_init_73 : decode cX5_init 73 = .ok (.aload_n 0, 1) := by decide +kernel
theorem dX5_init_74 : decode cX5_init 74 = .ok (.iconst 1, 1) := by decide +kernel
theorem dX5_init_75 : decode cX5_init 75 = .ok (.putfield 47, 3) := by decide +kernel
theorem dX5_init_78 : decode cX5_init 78 = .ok (.aload_n 0, 1) := by decide +kernel
theorem dX5_init_79 : decode cX5_init 79 = .ok (.bipush 20, 2) := by decide +kernel
theorem dX5_init_81 : decode cX5_init 81 = .ok (.newarray .int, 2) := by decide +kernel
theorem dX5_init_83 : decode cX5_init 83 = .ok (.putfield 50, 3) := by decide +kernel
theorem dX5_init_86 : decode cX5_init 86 = .ok (.return_, 1) := by decide +kernel
theorem dX5_copy_0 : decode cX5_copy 0 = .ok (.aload_n 0, 1) := by decide +kernel
theorem dX5_copy_1 : decode cX5_copy 1 = .ok (.getfield 12, 3) := by decide +kernel
theorem dX5_copy_4 : decode cX5_copy 4 = .ok (.aload_n 1, 1) := by decide +kernel
theorem dX5_copy_5 : decode cX5_copy 5 = .ok (.getfield 12, 3) := by decide +kernel
theorem dX5_copy_8 : decode cX5_copy 8 = .ok (.invokevirtual 53, 3) := by decide +kernel
theorem dX5_copy_11 : decode cX5_copy 11 = .ok (.aload_n 0, 1) := by decide +kernel
theorem dX5_copy_12 : decode cX5_copy 12 = .ok (.aload_n 1, 1) := by decide +kernel
theorem dX5_copy_13 : decode cX5_copy 13 = .ok (.getfield 57, 3) := by decide +kernel
theorem dX5_copy_16 : decode cX5_copy 16 = .ok (.putfield 57, 3) := by decide +kernel
theorem dX5_copy_19 : decode cX5_copy 19 = .ok (.aload_n 1, 1) := by decide +kernel
theorem dX5_copy_20 : decode cX5_copy 20 = .ok (.getfield 18, 3) := by decide +kernel
theorem dX5_copy_23 : decode cX5_copy 23 = .ok (.iconst 0, 1) := by decide +kernel
theorem dX5_copy_24 : decode cX5_copy 24 = .ok (.aload_n 0, 1) := by decide +kernel
theorem dX5_copy_25 : decode cX5_copy 25 = .ok (.getfield 18, 3) := by decide +kernel
theorem dX5_copy_28 : decode cX5_copy 28 = .ok (.iconst 0, 1) := by decide +kernel
theorem dX5_copy_29 : decode cX5_copy 29 = .ok (.bipush 6, 2) := by decide +kernel
theorem dX5_copy_31 : decode cX5_copy 31 = .ok (.invokestatic 60, 3) := by decide +kernel
theorem dX5_copy_34 : decode cX5_copy 34 = .ok (.aload_n 1, 1) := by decide +kernel
theorem dX5_copy_35 : decode cX5_copy 35 = .ok (.getfield 22, 3) := by decide +kernel
theorem dX5_copy_38 : decode cX5_copy 38 = .ok (.iconst 0, 1) := by decide +kernel
theorem dX5_copy_39 : decode cX5_copy 39 = .ok (.aload_n 0, 1) := by decide +kernel
theorem dX5_copy_40 : decode cX5_copy 40 = .ok (.getfield 22, 3) := by decide +kernel
theorem dX5_copy_43 : decode cX5_copy 43 = .ok (.iconst 0, 1) := by decide +kernel
theorem dX5_copy_44 : decode cX5_copy 44 = .ok (.bipush 6, 2) := by decide +kernel
theorem dX5_copy_46 : decode cX5_copy 46 = .ok (.invokestatic 60, 3) := by decide +kernel
theorem dX5_copy_49 : decode cX5_copy 49 = .ok (.aload_n 0, 1) := by decide +kernel
theorem dX5_copy_50 : decode cX5_copy 50 = .ok (.aload_n 1, 1) := by decide +kernel
theorem dX5_copy_51 : decode cX5_copy 51 = .ok (.getfield 66, 3) := by decide +kernel
theorem dX5_copy_54 : decode cX5_copy 54 = .ok (.putfield 66, 3) := by decide +kernel
theorem dX5_copy_57 : decode cX5_copy 57 = .ok (.aload_n 0, 1) := by decide +kernel
theorem dX5_copy_58 : decode cX5_copy 58 = .ok (.aload_n 1, 1) := by decide +kernel
theorem dX5_copy_59 : decode cX5_copy 59 = .ok (.getfield 69, 3) := by decide +kernel
theorem dX5_copy_62 : decode cX5_copy 62 = .ok (.putfield 69, 3) := by decide +kernel
theorem dX5_copy_65 : decode cX5_copy 65 = .ok (.aload_n 0, 1) := by decide +kernel
theorem dX5_copy_66 : decode cX5_copy 66 = .ok (.aload_n 1, 1) := by decide +kernel
theorem dX5_copy_67 : decode cX5_copy 67 = .ok (.getfield 72, 3) := by decide +kernel
theorem dX5_copy_70 : decode cX5_copy 70 = .ok (.putfield 72, 3) := by decide +kernel
theorem dX5_copy_73 : decode cX5_copy 73 = .ok (.aload_n 0, 1) := by decide +kernel
theorem dX5_copy_74 : decode cX5_copy 74 = .ok (.aload_n 1, 1) := by decide +kernel
theorem dX5_copy_75 : decode cX5_copy 75 = .ok (.getfield 25, 3) := by decide +kernel
theorem dX5_copy_78 : decode cX5_copy 78 = .ok (.putfield 25, 3) := by decide +kernel
theorem dX5_copy_81 : decode cX5_copy 81 = .ok (.aload_n 0, 1) := by decide +kernel
theorem dX5_copy_82 : decode cX5_copy 82 = .ok (.aload_n 1, 1) := by decide +kernel
theorem dX5_copy_83 : decode cX5_copy 83 = .ok (.getfield 29, 3) := by decide +kernel
theorem dX5_copy_86 : decode cX5_copy 86 = .ok (.putfield 29, 3) := by decide +kernel
theorem dX5_copy_89 : decode cX5_copy 89 = .ok (.aload_n 0, 1) := by decide +kernel
theorem dX5_copy_90 : decode cX5_copy 90 = .ok (.aload_n 1, 1) := by decide +kernel
theorem dX5_copy_91 : decode cX5_copy 91 = .ok (.getfield 75, 3) := by decide +kernel
theorem dX5_copy_94 : decode cX5_copy 94 = .ok (.putfield 75, 3) := by decide +kernel
theorem dX5_copy_97 : decode cX5_copy 97 = .ok (.aload_n 0, 1) := by decide +kernel
theorem dX5_copy_98 : decode cX5_copy 98 = .ok (.getfield 37, 3) := by decide +kernel
theorem dX5_copy_101 : decode cX5_copy 101 = .ok (.aload_n 1, 1) := by decide +kernel
theorem dX5_copy_102 : decode cX5_copy 102 = .ok (.getfield 37, 3) := by decide +kernel
theorem dX5_copy_105 : decode cX5_copy 105 = .ok (.getfield 78, 3) := by decide +kernel
theorem dX5_copy_108 : decode cX5_copy 108 = .ok (.aload_n 1, 1) := by decide +kernel
theorem dX5_copy_109 : decode cX5_copy 109 = .ok (.getfield 37, 3) := by decide +kernel
theorem dX5_copy_112 : decode cX5_copy 112 = .ok (.getfield 81, 3) := by decide +kernel
theorem dX5_copy_115 : decode cX5_copy 115 = .ok (.invokevirtual 84, 3) := by decide +kernel
theorem dX5_copy_118 : decode cX5_copy 118 = .ok (.aload_n 0, 1) := by decide +kernel
theorem dX5_copy_119 : decode cX5_copy 119 = .ok (.getfield 41, 3) := by decide +kernel
theorem dX5_copy_122 : decode cX5_copy 122 = .ok (.aload_n 1, 1) := by decide +kernel
theorem dX5_copy_123 : decode cX5_copy 123 = .ok (.getfield 41, 3) := by decide +kernel
theorem dX5_copy_126 : decode cX5_copy 126 = .ok (.getfield 78, 3) := by decide +kernel
theorem dX5_copy_129 : decode cX5_copy 129 = .ok (.aload_n 1, 1) := by decide +kernel
theorem dX5_copy_130 : decode cX5_copy 130 = .ok (.getfield 41, 3) := by decide +kernel
theorem dX5_copy_133 : decode cX5_copy 133 = .ok (.getfield 81, 3) := by decide +kernel
theorem dX5_copy_136 : decode cX5_copy 136 = .ok (.invokevirtual 84, 3) := by decide +kernel
theorem dX5_copy_139 : decode cX5_copy 139 = .ok (.aload_n 1, 1) := by decide +kernel
theorem dX5_copy_140 : decode cX5_copy 140 = .ok (.getfield 44, 3) := by decide +kernel
theorem dX5_copy_143 : decode cX5_copy 143 = .ok (.iconst 0, 1) := by decide +kernel
theorem dX5_copy_144 : decode cX5_copy 144 = .ok (.aload_n 0, 1) := by decide +kernel
theorem dX5_copy_145 : decode cX5_copy 145 = .ok (.getfield 44, 3) := by decide +kernel
theorem dX5_copy_148 : decode cX5_copy 148 = .ok (.iconst 0, 1) := by decide +kernel
theorem dX5_copy_149 : decode cX5_copy 149 = .ok (.bipush 50, 2) := by decide +kernel
theorem dX5_copy_151 : decode cX5_copy 151 = .ok (.invokestatic 60, 3) := by decide +kernel
theorem dX5_copy_154 : decode cX5_copy 154 = .ok (.aload_n 0, 1) := by decide +kernel
theorem dX5_copy_155 : decode cX5_copy 155 = .ok (.aload_n 1, 1) := by decide +kernel
theorem dX5_copy_156 : decode cX5_copy 156 = .ok (.getfield 88, 3) := by decide +kernel
theorem dX5_copy_159 : decode cX5_copy 159 = .ok (.putfield 88, 3) := by decide +kernel
theorem dX5_copy_162 : decode cX5_copy 162 = .ok (.aload_n 0, 1) := by decide +kernel
theorem dX5_copy_163 : decode cX5_copy 163 = .ok (.aload_n 1, 1) := by decide +kernel
theorem dX5_copy_164 : decode cX5_copy 164 = .ok (.getfield 47, 3) := by decide +kernel
theorem dX5_copy_167 : decode cX5_copy 167 = .ok (.putfield 47, 3) := by decide +kernel
theorem dX5_copy_170 : decode cX5_copy 170 = .ok (.aload_n 1, 1) := by decide +kernel
theorem dX5_copy_171 : decode cX5_copy 171 = .ok (.getfield 50, 3) := by decide +kernel
theorem dX5_copy_174 : decode cX5_copy 174 = .ok (.iconst 0, 1) := by decide +kernel
theorem dX5_copy_175 : decode cX5_copy 175 = .ok (.aload_n 0, 1) := by decide +kernel
theorem dX5_copy_176 : decode cX5_copy 176 = .ok (.getfield 50, 3) := by decide +kernel
theorem dX5_copy_179 : decode cX5_copy 179 = .ok (.iconst 0, 1) := by decide +kernel
theorem dX5_copy_180 : decode cX5_copy 180 = .ok (.bipush 20, 2) := by decide +kernel
theorem dX5_copy_182 : decode cX5_copy 182 = .ok (.invokestatic 60, 3) := by decide +kernel
theorem dX5_copy_185 : decode cX5_copy 185 = .ok (.aload_n 0, 1) := by decide +kernel
theorem dX5_copy_186 : decode cX5_copy 186 = .ok (.aload_n 1, 1) := by decide +kernel
theorem dX5_copy_187 : decode cX5_copy 187 = .ok (.getfield 91, 3) := by decide +kernel
theorem dX5_copy_190 : decode cX5_copy 190 = .ok (.putfield 91, 3) := by decide +kernel
theorem dX5_copy_193 : decode cX5_copy 193 = .ok (.return_, 1) := by decide +kernel
theorem dX5_hasMotion_0 : decode cX5_hasMotion 0 = .ok (.iload_n 1, 1) := by decide +kernel
theorem dX5_hasMotion_1 : decode cX5_hasMotion 1 = .ok (.ifCond .lt 15, 3) := by decide +kernel
theorem dX5_hasMotion_4 : decode cX5_hasMotion 4 = .ok (.iload_n 1, 1) := by decide +kernel
theorem dX5_hasMotion_5 : decode cX5_hasMotion 5 = .ok (.aload_n 0, 1) := by decide +kernel
theorem dX5_hasMotion_6 : decode cX5_hasMotion 6 = .ok (.getfield 57, 3) := by decide +kernel
theorem dX5_hasMotion_9 : decode cX5_hasMotion 9 = .ok (.if_icmp .ge 7, 3) := by decide +kernel
theorem dX5_hasMotion_12 : decode cX5_hasMotion 12 = .ok (.iconst 1, 1) := by decide +kernel
theorem dX5_hasMotion_13 : decode cX5_hasMotion 13 = .ok (.goto 4, 3) := by decide +kernel
theorem dX5_hasMotion_16 : decode cX5_hasMotion 16 = .ok (.iconst 0, 1) := by decide +kernel
theorem dX5_hasMotion_17 : decode cX5_hasMotion 17 = .ok (.ireturn, 1) := by decide +kernel
theorem dX5_textOf_0 : decode cX5_textOf 0 = .ok (.iload_n 1, 1) := by decide +kernel
theorem dX5_textOf_1 : decode cX5_textOf 1 = .ok (.ifCond .ne 10, 3) := by decide +kernel
theorem dX5_textOf_4 : decode cX5_textOf 4 = .ok (.aload_n 0, 1) := by decide +kernel
theorem dX5_textOf_5 : decode cX5_textOf 5 = .ok (.getfield 37, 3) := by decide +kernel
theorem dX5_textOf_8 : decode cX5_textOf 8 = .ok (.goto 7, 3) := by decide +kernel
theorem dX5_textOf_11 : decode cX5_textOf 11 = .ok (.aload_n 0, 1) := by decide +kernel
theorem dX5_textOf_12 : decode cX5_textOf 12 = .ok (.getfield 41, 3) := by decide +kernel
theorem dX5_textOf_15 : decode cX5_textOf 15 = .ok (.areturn, 1) := by decide +kernel
theorem dX5_coldOf_0 : decode cX5_coldOf 0 = .ok (.aload_n 0, 1) := by decide +kernel
theorem dX5_coldOf_1 : decode cX5_coldOf 1 = .ok (.getfield 41, 3) := by decide +kernel
theorem dX5_coldOf_4 : decode cX5_coldOf 4 = .ok (.iload_n 1, 1) := by decide +kernel
theorem dX5_coldOf_5 : decode cX5_coldOf 5 = .ok (.iload_n 2, 1) := by decide +kernel
theorem dX5_coldOf_6 : decode cX5_coldOf 6 = .ok (.iload_n 3, 1) := by decide +kernel
theorem dX5_coldOf_7 : decode cX5_coldOf 7 = .ok (.invokestatic 94, 3) := by decide +kernel
theorem dX5_coldOf_10 : decode cX5_coldOf 10 = .ok (.invokevirtual 100, 3) := by decide +kernel
theorem dX5_coldOf_13 : decode cX5_coldOf 13 = .ok (.ireturn, 1) := by decide +kernel
theorem dX5_holdVote_0 : decode cX5_holdVote 0 = .ok (.aload_n 0, 1) := by decide +kernel
theorem dX5_holdVote_1 : decode cX5_holdVote 1 = .ok (.getfield 12, 3) := by decide +kernel
theorem dX5_holdVote_4 : decode cX5_holdVote 4 = .ok (.aload_n 0, 1) := by decide +kernel
theorem dX5_holdVote_5 : decode cX5_holdVote 5 = .ok (.getfield 22, 3) := by decide +kernel
theorem dX5_holdVote_8 : decode cX5_holdVote 8 = .ok (.iload_n 1, 1) := by decide +kernel
theorem dX5_holdVote_9 : decode cX5_holdVote 9 = .ok (.iaload, 1) := by decide +kernel
theorem dX5_holdVote_10 : decode cX5_holdVote 10 = .ok (.aload_n 0, 1) := by decide +kernel
theorem dX5_holdVote_11 : decode cX5_holdVote 11 = .ok (.getfield 18, 3) := by decide +kernel
theorem dX5_holdVote_14 : decode cX5_holdVote 14 = .ok (.iload_n 1, 1) := by decide +kernel
theorem dX5_holdVote_15 : decode cX5_holdVote 15 = .ok (.iaload, 1) := by decide +kernel
theorem dX5_holdVote_16 : decode cX5_holdVote 16 = .ok (.invokevirtual 104, 3) := by decide +kernel
theorem dX5_holdVote_19 : decode cX5_holdVote 19 = .ok (.istore_n 2, 1) := by decide +kernel
theorem dX5_holdVote_20 : decode cX5_holdVote 20 = .ok (.iload_n 2, 1) := by decide +kernel
theorem dX5_holdVote_21 : decode cX5_holdVote 21 = .ok (.ifCond .eq 15, 3) := by decide +kernel
theorem dX5_holdVote_24 : decode cX5_holdVote 24 = .ok (.aload_n 0, 1) := by decide +kernel
theorem dX5_holdVote_25 : decode cX5_holdVote 25 = .ok (.dup, 1) := by decide +kernel
theorem dX5_holdVote_26 : decode cX5_holdVote 26 = .ok (.getfield 66, 3) := by decide +kernel
theorem dX5_holdVote_29 : decode cX5_holdVote 29 = .ok (.iconst 1, 1) := by decide +kernel
theorem dX5_holdVote_30 : decode cX5_holdVote 30 = .ok (.iload_n 1, 1) := by decide +kernel
theorem dX5_holdVote_31 : decode cX5_holdVote 31 = .ok (.ishl, 1) := by decide +kernel
theorem dX5_holdVote_32 : decode cX5_holdVote 32 = .ok (.ior, 1) := by decide +kernel
theorem dX5_holdVote_33 : decode cX5_holdVote 33 = .ok (.putfield 66, 3) := by decide +kernel
theorem dX5_holdVote_36 : decode cX5_holdVote 36 = .ok (.sipush 255, 3) := by decide +kernel
theorem dX5_holdVote_39 : decode cX5_holdVote 39 = .ok (.istore_n 3, 1) := by decide +kernel
theorem dX5_holdVote_40 : decode cX5_holdVote 40 = .ok (.aload_n 0, 1) := by decide +kernel
theorem dX5_holdVote_41 : decode cX5_holdVote 41 = .ok (.sipush 999, 3) := by decide +kernel
theorem dX5_holdVote_44 : decode cX5_holdVote 44 = .ok (.aload_n 0, 1) := by decide +kernel
theorem dX5_holdVote_45 : decode cX5_holdVote 45 = .ok (.getfield 69, 3) := by decide +kernel
theorem dX5_holdVote_48 : decode cX5_holdVote 48 = .ok (.aload_n 0, 1) := by decide +kernel
theorem dX5_holdVote_49 : decode cX5_holdVote 49 = .ok (.getfield 12, 3) := by decide +kernel
theorem dX5_holdVote_52 : decode cX5_holdVote 52 = .ok (.iload_n 3, 1) := by decide +kernel
theorem dX5_holdVote_53 : decode cX5_holdVote 53 = .ok (.invokevirtual 108, 3) := by decide +kernel
theorem dX5_holdVote_56 : decode cX5_holdVote 56 = .ok (.iadd, 1) := by decide +kernel
theorem dX5_holdVote_57 : decode cX5_holdVote 57 = .ok (.invokestatic 111, 3) := by decide +kernel
theorem dX5_holdVote_60 : decode cX5_holdVote 60 = .ok (.putfield 69, 3) := by decide +kernel
theorem dX5_holdVote_63 : decode cX5_holdVote 63 = .ok (.aload_n 0, 1) := by decide +kernel
theorem dX5_holdVote_64 : decode cX5_holdVote 64 = .ok (.sipush 999, 3) := by decide +kernel
theorem dX5_holdVote_67 : decode cX5_holdVote 67 = .ok (.aload_n 0, 1) := by decide +kernel
theorem dX5_holdVote_68 : decode cX5_holdVote 68 = .ok (.getfield 72, 3) := by decide +kernel
theorem dX5_holdVote_71 : decode cX5_holdVote 71 = .ok (.aload_n 0, 1) := by decide +kernel
theorem dX5_holdVote_72 : decode cX5_holdVote 72 = .ok (.getfield 12, 3) := by decide +kernel
theorem dX5_holdVote_75 : decode cX5_holdVote 75 = .ok (.iload_n 3, 1) := by decide +kernel
theorem dX5_holdVote_76 : decode cX5_holdVote 76 = .ok (.invokevirtual 117, 3) := by decide +kernel
theorem dX5_holdVote_79 : decode cX5_holdVote 79 = .ok (.iadd, 1) := by decide +kernel
theorem dX5_holdVote_80 : decode cX5_holdVote 80 = .ok (.invokestatic 111, 3) := by decide +kernel
theorem dX5_holdVote_83 : decode cX5_holdVote 83 = .ok (.putfield 72, 3) := by decide +kernel
theorem dX5_holdVote_86 : decode cX5_holdVote 86 = .ok (.aload_n 0, 1) := by decide +kernel
theorem dX5_holdVote_87 : decode cX5_holdVote 87 = .ok (.getfield 12, 3) := by decide +kernel
theorem dX5_holdVote_90 : decode cX5_holdVote 90 = .ok (.invokevirtual 120, 3) := by decide +kernel
theorem dX5_holdVote_93 : decode cX5_holdVote 93 = .ok (.iload_n 2, 1) := by decide +kernel
theorem dX5_holdVote_94 : decode cX5_holdVote 94 = .ok (.ireturn, 1) := by decide +kernel
theorem dX5_passDay_0 : decode cX5_passDay 0 = .ok (.aload_n 0, 1) := by decide +kernel
theorem dX5_passDay_1 : decode cX5_passDay 1 = .ok (.getfield 12, 3) := by decide +kernel
theorem dX5_passDay_4 : decode cX5_passDay 4 = .ok (.aload_n 0, 1) := by decide +kernel
theorem dX5_passDay_5 : decode cX5_passDay 5 = .ok (.aload_n 0, 1) := by decide +kernel
theorem dX5_passDay_6 : decode cX5_passDay 6 = .ok (.getfield 75, 3) := by decide +kernel
theorem dX5_passDay_9 : decode cX5_passDay 9 = .ok (.aload_n 0, 1) := by decide +kernel
theorem dX5_passDay_10 : decode cX5_passDay 10 = .ok (.getfield 29, 3) := by decide +kernel
theorem dX5_passDay_13 : decode cX5_passDay 13 = .ok (.aload_n 0, 1) := by decide +kernel
theorem dX5_passDay_14 : decode cX5_passDay 14 = .ok (.getfield 66, 3) := by decide +kernel
theorem dX5_passDay_17 : decode cX5_passDay 17 = .ok (.invokevirtual 123, 3) := by decide +kernel
theorem dX5_passDay_20 : decode cX5_passDay 20 = .ok (.aload_n 0, 1) := by decide +kernel
theorem dX5_passDay_21 : decode cX5_passDay 21 = .ok (.getfield 37, 3) := by decide +kernel
theorem dX5_passDay_24 : decode cX5_passDay 24 = .ok (.invokevirtual 126, 3) := by decide +kernel
theorem dX5_passDay_27 : decode cX5_passDay 27 = .ok (.aload_n 0, 1) := by decide +kernel
theorem dX5_passDay_28 : decode cX5_passDay 28 = .ok (.dup, 1) := by decide +kernel
theorem dX5_passDay_29 : decode cX5_passDay 29 = .ok (.getfield 75, 3) := by decide +kernel
theorem dX5_passDay_32 : decode cX5_passDay 32 = .ok (.iconst 1, 1) := by decide +kernel
theorem dX5_passDay_33 : decode cX5_passDay 33 = .ok (.iadd, 1) := by decide +kernel
theorem dX5_passDay_34 : decode cX5_passDay 34 = .ok (.putfield 75, 3) := by decide +kernel
theorem dX5_passDay_37 : decode cX5_passDay 37 = .ok (.return_, 1) := by decide +kernel
theorem dX5_draw_0 : decode cX5_draw 0 = .ok (.aload_n 0, 1) := by decide +kernel
theorem dX5_draw_1 : decode cX5_draw 1 = .ok (.aload_n 0, 1) := by decide +kernel
theorem dX5_draw_2 : decode cX5_draw 2 = .ok (.getfield 47, 3) := by decide +kernel
theorem dX5_draw_5 : decode cX5_draw 5 = .ok (.ldc 130, 2) := by decide +kernel
theorem dX5_draw_7 : decode cX5_draw 7 = .ok (.imul, 1) := by decide +kernel
theorem dX5_draw_8 : decode cX5_draw 8 = .ok (.sipush 12345, 3) := by decide +kernel
theorem dX5_draw_11 : decode cX5_draw 11 = .ok (.iadd, 1) := by decide +kernel
theorem dX5_draw_12 : decode cX5_draw 12 = .ok (.putfield 47, 3) := by decide +kernel
theorem dX5_draw_15 : decode cX5_draw 15 = .ok (.aload_n 0, 1) := by decide +kernel
theorem dX5_draw_16 : decode cX5_draw 16 = .ok (.getfield 47, 3) := by decide +kernel
theorem dX5_draw_19 : decode cX5_draw 19 = .ok (.bipush 8, 2) := by decide +kernel
theorem dX5_draw_21 : decode cX5_draw 21 = .ok (.iushr, 1) := by decide +kernel
theorem dX5_draw_22 : decode cX5_draw 22 = .ok (.ireturn, 1) := by decide +kernel
theorem dJ6_bitCount_0f7a4_0 : decode cJ6_bitCount_0f7a4 0 = .ok (.iload_n 0, 1) := by decide +kernel
theorem dJ6_bitCount_0f7a4_1 : decode cJ6_bitCount_0f7a4 1 = .ok (.iload_n 0, 1) := by decide +kernel
theorem dJ6_bitCount_0f7a4_2 : decode cJ6_bitCount_0f7a4 2 = .ok (.iconst 1, 1) := by decide +kernel
theorem dJ6_bitCount_0f7a4_3 : decode cJ6_bitCount_0f7a4 3 = .ok (.iushr, 1) := by decide +kernel
theorem dJ6_bitCount_0f7a4_4 : decode cJ6_bitCount_0f7a4 4 = .ok (.ldc_w 265, 3) := by decide +kernel
theorem dJ6_bitCount_0f7a4_7 : decode cJ6_bitCount_0f7a4 7 = .ok (.iand, 1) := by decide +kernel
theorem dJ6_bitCount_0f7a4_8 : decode cJ6_bitCount_0f7a4 8 = .ok (.isub, 1) := by decide +kernel
theorem dJ6_bitCount_0f7a4_9 : decode cJ6_bitCount_0f7a4 9 = .ok (.istore_n 0, 1) := by decide +kernel
theorem dJ6_bitCount_0f7a4_10 : decode cJ6_bitCount_0f7a4 10 = .ok (.iload_n 0, 1) := by decide +kernel
theorem dJ6_bitCount_0f7a4_11 : decode cJ6_bitCount_0f7a4 11 = .ok (.ldc_w 266, 3) := by decide +kernel
theorem dJ6_bitCount_0f7a4_14 : decode cJ6_bitCount_0f7a4 14 = .ok (.iand, 1) := by decide +kernel
theorem dJ6_bitCount_0f7a4_15 : decode cJ6_bitCount_0f7a4 15 = .ok (.iload_n 0, 1) := by decide +kernel
theorem dJ6_bitCount_0f7a4_16 : decode cJ6_bitCount_0f7a4 16 = .ok (.iconst 2, 1) := by decide +kernel
theorem dJ6_bitCount_0f7a4_17 : decode cJ6_bitCount_0f7a4 17 = .ok (.iushr, 1) := by decide +kernel
theorem dJ6_bitCount_0f7a4_18 : decode cJ6_bitCount_0f7a4 18 = .ok (.ldc_w 266, 3) := by decide +kernel
theorem dJ6_bitCount_0f7a4_21 : decode cJ6_bitCount_0f7a4 21 = .ok (.iand, 1) := by decide +kernel
theorem dJ6_bitCount_0f7a4_22 : decode cJ6_bitCount_0f7a4 22 = .ok (.iadd, 1) := by decide +kernel
theorem dJ6_bitCount_0f7a4_23 : decode cJ6_bitCount_0f7a4 23 = .ok (.istore_n 0, 1) := by decide +kernel
theorem dJ6_bitCount_0f7a4_24 : decode cJ6_bitCount_0f7a4 24 = .ok (.iload_n 0, 1) := by decide +kernel
theorem dJ6_bitCount_0f7a4_25 : decode cJ6_bitCount_0f7a4 25 = .ok (.iload_n 0, 1) := by decide +kernel
theorem dJ6_bitCount_0f7a4_26 : decode cJ6_bitCount_0f7a4 26 = .ok (.iconst 4, 1) := by decide +kernel
theorem dJ6_bitCount_0f7a4_27 : decode cJ6_bitCount_0f7a4 27 = .ok (.iushr, 1) := by decide +kernel
theorem dJ6_bitCount_0f7a4_28 : decode cJ6_bitCount_0f7a4 28 = .ok (.iadd, 1) := by decide +kernel
theorem dJ6_bitCount_0f7a4_29 : decode cJ6_bitCount_0f7a4 29 = .ok (.ldc_w 267, 3) := by decide +kernel
theorem dJ6_bitCount_0f7a4_32 : decode cJ6_bitCount_0f7a4 32 = .ok (.iand, 1) := by decide +kernel
theorem dJ6_bitCount_0f7a4_33 : decode cJ6_bitCount_0f7a4 33 = .ok (.istore_n 0, 1) := by decide +kernel
theorem dJ6_bitCount_0f7a4_34 : decode cJ6_bitCount_0f7a4 34 = .ok (.iload_n 0, 1) := by decide +kernel
theorem dJ6_bitCount_0f7a4_35 : decode cJ6_bitCount_0f7a4 35 = .ok (.iload_n 0, 1) := by decide +kernel
theorem dJ6_bitCount_0f7a4_36 : decode cJ6_bitCount_0f7a4 36 = .ok (.bipush 8, 2) := by decide +kernel
theorem dJ6_bitCount_0f7a4_38 : decode cJ6_bitCount_0f7a4 38 = .ok (.iushr, 1) := by decide +kernel
theorem dJ6_bitCount_0f7a4_39 : decode cJ6_bitCount_0f7a4 39 = .ok (.iadd, 1) := by decide +kernel
theorem dJ6_bitCount_0f7a4_40 : decode cJ6_bitCount_0f7a4 40 = .ok (.istore_n 0, 1) := by decide +kernel
theorem dJ6_bitCount_0f7a4_41 : decode cJ6_bitCount_0f7a4 41 = .ok (.iload_n 0, 1) := by decide +kernel
theorem dJ6_bitCount_0f7a4_42 : decode cJ6_bitCount_0f7a4 42 = .ok (.iload_n 0, 1) := by decide +kernel
theorem dJ6_bitCount_0f7a4_43 : decode cJ6_bitCount_0f7a4 43 = .ok (.bipush 16, 2) := by decide +kernel
theorem dJ6_bitCount_0f7a4_45 : decode cJ6_bitCount_0f7a4 45 = .ok (.iushr, 1) := by decide +kernel
theorem dJ6_bitCount_0f7a4_46 : decode cJ6_bitCount_0f7a4 46 = .ok (.iadd, 1) := by decide +kernel
theorem dJ6_bitCount_0f7a4_47 : decode cJ6_bitCount_0f7a4 47 = .ok (.istore_n 0, 1) := by decide +kernel
theorem dJ6_bitCount_0f7a4_48 : decode cJ6_bitCount_0f7a4 48 = .ok (.iload_n 0, 1) := by decide +kernel
theorem dJ6_bitCount_0f7a4_49 : decode cJ6_bitCount_0f7a4 49 = .ok (.bipush 63, 2) := by decide +kernel
theorem dJ6_bitCount_0f7a4_51 : decode cJ6_bitCount_0f7a4 51 = .ok (.iand, 1) := by decide +kernel
theorem dJ6_bitCount_0f7a4_52 : decode cJ6_bitCount_0f7a4 52 = .ok (.ireturn, 1) := by decide +kernel
theorem dJ9_max_7cf53_0 : decode cJ9_max_7cf53 0 = .ok (.iload_n 0, 1) := by decide +kernel
theorem dJ9_max_7cf53_1 : decode cJ9_max_7cf53 1 = .ok (.iload_n 1, 1) := by decide +kernel
theorem dJ9_max_7cf53_2 : decode cJ9_max_7cf53 2 = .ok (.if_icmp .lt 7, 3) := by decide +kernel
theorem dJ9_max_7cf53_5 : decode cJ9_max_7cf53 5 = .ok (.iload_n 0, 1) := by decide +kernel
theorem dJ9_max_7cf53_6 : decode cJ9_max_7cf53 6 = .ok (.goto 4, 3) := by decide +kernel
theorem dJ9_max_7cf53_9 : decode cJ9_max_7cf53 9 = .ok (.iload_n 1, 1) := by decide +kernel
theorem dJ9_max_7cf53_10 : decode cJ9_max_7cf53 10 = .ok (.ireturn, 1) := by decide +kernel
theorem dJ9_min_7cf53_0 : decode cJ9_min_7cf53 0 = .ok (.iload_n 0, 1) := by decide +kernel
theorem dJ9_min_7cf53_1 : decode cJ9_min_7cf53 1 = .ok (.iload_n 1, 1) := by decide +kernel
theorem dJ9_min_7cf53_2 : decode cJ9_min_7cf53 2 = .ok (.if_icmp .gt 7, 3) := by decide +kernel
theorem dJ9_min_7cf53_5 : decode cJ9_min_7cf53 5 = .ok (.iload_n 0, 1) := by decide +kernel
theorem dJ9_min_7cf53_6 : decode cJ9_min_7cf53 6 = .ok (.goto 4, 3) := by decide +kernel
theorem dJ9_min_7cf53_9 : decode cJ9_min_7cf53 9 = .ok (.iload_n 1, 1) := by decide +kernel
theorem dJ9_min_7cf53_10 : decode cJ9_min_7cf53 10 = .ok (.ireturn, 1) := by decide +kernel
