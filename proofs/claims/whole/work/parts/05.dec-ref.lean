theorem dX12_init_0 : decode cX12_init 0 = .ok (.aload_n 0, 1) := by decide +kernel
theorem dX12_init_1 : decode cX12_init 1 = .ok (.invokespecial 3, 3) := by decide +kernel
theorem dX12_init_4 : decode cX12_init 4 = .ok (.aload_n 0, 1) := by decide +kernel
theorem dX12_init_5 : decode cX12_init 5 = .ok (.sipush 965, 3) := by decide +kernel
theorem dX12_init_8 : decode cX12_init 8 = .ok (.newarray .int, 2) := by decide +kernel
theorem dX12_init_10 : decode cX12_init 10 = .ok (.putfield 9, 3) := by decide +kernel
theorem dX12_init_13 : decode cX12_init 13 = .ok (.aload_n 0, 1) := by decide +kernel
theorem dX12_init_14 : decode cX12_init 14 = .ok (.sipush 965, 3) := by decide +kernel
theorem dX12_init_17 : decode cX12_init 17 = .ok (.newarray .int, 2) := by decide +kernel
theorem dX12_init_19 : decode cX12_init 19 = .ok (.putfield 15, 3) := by decide +kernel
theorem dX12_init_22 : decode cX12_init 22 = .ok (.aload_n 0, 1) := by decide +kernel
theorem dX12_init_23 : decode cX12_init 23 = .ok (.bipush 64, 2) := by decide +kernel
theorem dX12_init_25 : decode cX12_init 25 = .ok (.newarray .boolean, 2) := by decide +kernel
theorem dX12_init_27 : decode cX12_init 27 = .ok (.putfield 18, 3) := by decide +kernel
theorem dX12_init_30 : decode cX12_init 30 = .ok (.aload_n 0, 1) := by decide +kernel
theorem dX12_init_31 : decode cX12_init 31 = .ok (.bipush 6, 2) := by decide +kernel
theorem dX12_init_33 : decode cX12_init 33 = .ok (.newarray .int, 2) := by decide +kernel
theorem dX12_init_35 : decode cX12_init 35 = .ok (.putfield 22, 3) := by decide +kernel
theorem dX12_init_38 : decode cX12_init 38 = .ok (.aload_n 0, 1) := by decide +kernel
theorem dX12_init_39 : decode cX12_init 39 = .ok (.iconst (-1), 1) := by decide +kernel
theorem dX12_init_40 : decode cX12_init 40 = .ok (.putfield 25, 3) := by decide +kernel
theorem dX12_init_43 : decode cX12_init 43 = .ok (.aload_n 0, 1) := by decide +kernel
theorem dX12_init_44 : decode cX12_init 44 = .ok (.bipush 64, 2) := by decide +kernel
theorem dX12_init_46 : decode cX12_init 46 = .ok (.newarray .int, 2) := by decide +kernel
theorem dX12_init_48 : decode cX12_init 48 = .ok (.putfield 29, 3) := by decide +kernel
theorem dX12_init_51 : decode cX12_init 51 = .ok (.aload_n 0, 1) := by decide +kernel
theorem dX12_init_52 : decode cX12_init 52 = .ok (.bipush 64, 2) := by decide +kernel
theorem dX12_init_54 : decode cX12_init 54 = .ok (.newarray .int, 2) := by decide +kernel
theorem dX12_init_56 : decode cX12_init 56 = .ok (.putfield 32, 3) := by decide +kernel
theorem dX12_init_59 : decode cX12_init 59 = .ok (.aload_n 0, 1) := by decide +kernel
theorem dX12_init_60 : decode cX12_init 60 = .ok (.bipush 64, 2) := by decide +kernel
theorem dX12_init_62 : decode cX12_init 62 = .ok (.newarray .long, 2) := by decide +kernel
theorem dX12_init_64 : decode cX12_init 64 = .ok (.putfield 35, 3) := by decide +kernel
theorem dX12_init_67 : decode cX12_init 67 = .ok (.aload_n 0, 1) := by decide +kernel
theorem dX12_init_68 : decode cX12_init 68 = .ok (.bipush 64, 2) := by decide +kernel
theorem dX12_init_70 : decode cX12_init 70 = .ok (.newarray .long, 2) := by decide +kernel
theorem dX12_init_72 : decode cX12_init 72 = .ok (.putfield 39, 3) := by decide +kernel
theorem dX12_init_75 : decode cX12_init 75 = .ok (.aload_n 0, 1) := by decide +kernel
theorem dX12_init_76 : decode cX12_init 76 = .ok (.bipush 20, 2) := by decide +kernel
theorem dX12_init_78 : decode cX12_init 78 = .ok (.newarray .int, 2) := by decide +kernel
theorem dX12_init_80 : decode cX12_init 80 = .ok (.putfield 42, 3) := by decide +kernel
theorem dX12_init_83 : decode cX12_init 83 = .ok (.return_, 1) := by decide +kernel
theorem dX12_in_0 : decode cX12_in 0 = .ok (.iload_n 0, 1) := by decide +kernel
theorem dX12_in_1 : decode cX12_in 1 = .ok (.iload_n 1, 1) := by decide +kernel
theorem dX12_in_2 : decode cX12_in 2 = .ok (.if_icmp .lt 12, 3) := by decide +kernel
theorem dX12_in_5 : decode cX12_in 5 = .ok (.iload_n 0, 1) := by decide +kernel
theorem dX12_in_6 : decode cX12_in 6 = .ok (.iload_n 2, 1) := by decide +kernel
theorem dX12_in_7 : decode cX12_in 7 = .ok (.if_icmp .gt 7, 3) := by decide +kernel
theorem dX12_in_10 : decode cX12_in 10 = .ok (.iconst 1, 1) := by decide +kernel
theorem dX12_in_11 : decode cX12_in 11 = .ok (.goto 4, 3) := by decide +kernel
theorem dX12_in_14 : decode cX12_in 14 = .ok (.iconst 0, 1) := by decide +kernel
theorem dX12_in_15 : decode cX12_in 15 = .ok (.ireturn, 1) := by decide +kernel
theorem dX12_isName_0 : decode cX12_isName 0 = .ok (.iload_n 1, 1) := by decide +kernel
theorem dX12_isName_1 : decode cX12_isName 1 = .ok (.iconst 0, 1) := by decide +kernel
theorem dX12_isName_2 : decode cX12_isName 2 = .ok (.aload_n 0, 1) := by decide +kernel
theorem dX12_isName_3 : decode cX12_isName 3 = .ok (.getfield 9, 3) := by decide +kernel
theorem dX12_isName_6 : decode cX12_isName 6 = .ok (.iconst 0, 1) := by decide +kernel
theorem dX12_isName_7 : decode cX12_isName 7 = .ok (.iaload, 1) := by decide +kernel
theorem dX12_isName_8 : decode cX12_isName 8 = .ok (.iconst 1, 1) := by decide +kernel
theorem dX12_isName_9 : decode cX12_isName 9 = .ok (.isub, 1) := by decide +kernel
theorem dX12_isName_10 : decode cX12_isName 10 = .ok (.invokestatic 48, 3) := by decide +kernel
theorem dX12_isName_13 : decode cX12_isName 13 = .ok (.ireturn, 1) := by decide +kernel
theorem dX12_isClub_0 : decode cX12_isClub 0 = .ok (.iload_n 1, 1) := by decide +kernel
theorem dX12_isClub_1 : decode cX12_isClub 1 = .ok (.iconst 0, 1) := by decide +kernel
theorem dX12_isClub_2 : decode cX12_isClub 2 = .ok (.aload_n 0, 1) := by decide +kernel
theorem dX12_isClub_3 : decode cX12_isClub 3 = .ok (.getfield 9, 3) := by decide +kernel
theorem dX12_isClub_6 : decode cX12_isClub 6 = .ok (.iconst 1, 1) := by decide +kernel
theorem dX12_isClub_7 : decode cX12_isClub 7 = .ok (.iaload, 1) := by decide +kernel
theorem dX12_isClub_8 : decode cX12_isClub 8 = .ok (.iconst 1, 1) := by decide +kernel
theorem dX12_isClub_9 : decode cX12_isClub 9 = .ok (.isub, 1) := by decide +kernel
theorem dX12_isClub_10 : decode cX12_isClub 10 = .ok (.invokestatic 48, 3) := by decide +kernel
theorem dX12_isClub_13 : decode cX12_isClub 13 = .ok (.ireturn, 1) := by decide +kernel
theorem dX12_isDay_0 : decode cX12_isDay 0 = .ok (.iload_n 0, 1) := by decide +kernel
theorem dX12_isDay_1 : decode cX12_isDay 1 = .ok (.iconst 0, 1) := by decide +kernel
theorem dX12_isDay_2 : decode cX12_isDay 2 = .ok (.sipush 999, 3) := by decide +kernel
theorem dX12_isDay_5 : decode cX12_isDay 5 = .ok (.invokestatic 48, 3) := by decide +kernel
theorem dX12_isDay_8 : decode cX12_isDay 8 = .ok (.ireturn, 1) := by decide +kernel
theorem dX12_nameOn_0 : decode cX12_nameOn 0 = .ok (.iload_n 0, 1) := by decide +kernel
theorem dX12_nameOn_1 : decode cX12_nameOn 1 = .ok (.iconst 3, 1) := by decide +kernel
theorem dX12_nameOn_2 : decode cX12_nameOn 2 = .ok (.iload_n 1, 1) := by decide +kernel
theorem dX12_nameOn_3 : decode cX12_nameOn 3 = .ok (.imul, 1) := by decide +kernel
theorem dX12_nameOn_4 : decode cX12_nameOn 4 = .ok (.ishr, 1) := by decide +kernel
theorem dX12_nameOn_5 : decode cX12_nameOn 5 = .ok (.bipush 7, 2) := by decide +kernel
theorem dX12_nameOn_7 : decode cX12_nameOn 7 = .ok (.iand, 1) := by decide +kernel
theorem dX12_nameOn_8 : decode cX12_nameOn 8 = .ok (.ireturn, 1) := by decide +kernel
theorem dX12_rungOf_0 : decode cX12_rungOf 0 = .ok (.iconst 0, 1) := by decide +kernel
theorem dX12_rungOf_1 : decode cX12_rungOf 1 = .ok (.istore_n 3, 1) := by decide +kernel
theorem dX12_rungOf_2 : decode cX12_rungOf 2 = .ok (.iload_n 1, 1) := by decide +kernel
theorem dX12_rungOf_3 : decode cX12_rungOf 3 = .ok (.iload_n 3, 1) := by decide +kernel
theorem dX12_rungOf_4 : decode cX12_rungOf 4 = .ok (.invokestatic 52, 3) := by decide +kernel
theorem dX12_rungOf_7 : decode cX12_rungOf 7 = .ok (.iload_n 2, 1) := by decide +kernel
theorem dX12_rungOf_8 : decode cX12_rungOf 8 = .ok (.if_icmp .eq 9, 3) := by decide +kernel
theorem dX12_rungOf_11 : decode cX12_rungOf 11 = .ok (.iinc 3 1, 3) := by decide +kernel
theorem dX12_rungOf_14 : decode cX12_rungOf 14 = .ok (.goto (-12), 3) := by decide +kernel
theorem dX12_rungOf_17 : decode cX12_rungOf 17 = .ok (.iload_n 3, 1) := by decide +kernel
theorem dX12_rungOf_18 : decode cX12_rungOf 18 = .ok (.ireturn, 1) := by decide +kernel
theorem dX12_moved_0 : decode cX12_moved 0 = .ok (.iconst 0, 1) := by decide +kernel
theorem dX12_moved_1 : decode cX12_moved 1 = .ok (.istore 4, 2) := by decide +kernel
theorem dX12_moved_3 : decode cX12_moved 3 = .ok (.iconst 0, 1) := by decide +kernel
theorem dX12_moved_4 : decode cX12_moved 4 = .ok (.istore 5, 2) := by decide +kernel
theorem dX12_moved_6 : decode cX12_moved 6 = .ok (.iconst 0, 1) := by decide +kernel
theorem dX12_moved_7 : decode cX12_moved 7 = .ok (.istore 6, 2) := by decide +kernel
theorem dX12_moved_9 : decode cX12_moved 9 = .ok (.iload 6, 2) := by decide +kernel
theorem dX12_moved_11 : decode cX12_moved 11 = .ok (.aload_n 0, 1) := by decide +kernel
theorem dX12_moved_12 : decode cX12_moved 12 = .ok (.getfield 9, 3) := by decide +kernel
theorem dX12_moved_15 : decode cX12_moved 15 = .ok (.iconst 0, 1) := by decide +kernel
theorem dX12_moved_16 : decode cX12_moved 16 = .ok (.iaload, 1) := by decide +kernel
theorem dX12_moved_17 : decode cX12_moved 17 = .ok (.if_icmp .ge 61, 3) := by decide +kernel
theorem dX12_moved_20 : decode cX12_moved 20 = .ok (.iload_n 2, 1) := by decide +kernel
theorem dX12_moved_21 : decode cX12_moved 21 = .ok (.istore 7, 2) := by decide +kernel
theorem dX12_moved_23 : decode cX12_moved 23 = .ok (.iload 6, 2) := by decide +kernel
theorem dX12_moved_25 : decode cX12_moved 25 = .ok (.iload_n 3, 1) := by decide +kernel
theorem dX12_moved_26 : decode cX12_moved 26 = .ok (.if_icmp .eq 34, 3) := by decide +kernel
theorem dX12_moved_29 : decode cX12_moved 29 = .ok (.iload 5, 2) := by decide +kernel
theorem dX12_moved_31 : decode cX12_moved 31 = .ok (.iload_n 1, 1) := by decide +kernel
theorem dX12_moved_32 : decode cX12_moved 32 = .ok (.iload 5, 2) := by decide +kernel
theorem dX12_moved_34 : decode cX12_moved 34 = .ok (.invokestatic 52, 3) := by decide +kernel
theorem dX12_moved_37 : decode cX12_moved 37 = .ok (.iload_n 2, 1) := by decide +kernel
theorem dX12_moved_38 : decode cX12_moved 38 = .ok (.if_icmp .ne 7, 3) := by decide +kernel
theorem dX12_moved_41 : decode cX12_moved 41 = .ok (.iconst 1, 1) := by decide +kernel
theorem dX12_moved_42 : decode cX12_moved 42 = .ok (.goto 4, 3) := by decide +kernel
theorem dX12_moved_45 : decode cX12_moved 45 = .ok (.iconst 0, 1) := by decide +kernel
theorem dX12_moved_46 : decode cX12_moved 46 = .ok (.iadd, 1) := by decide +kernel
theorem dX12_moved_47 : decode cX12_moved 47 = .ok (.istore 5, 2) := by decide +kernel
theorem dX12_moved_49 : decode cX12_moved 49 = .ok (.iload_n 1, 1) := by decide +kernel
theorem dX12_moved_50 : decode cX12_moved 50 = .ok (.iload 5, 2) := by decide +kernel
theorem dX12_moved_52 : decode cX12_moved 52 = .ok (.invokestatic 52, 3) := by decide +kernel
theorem dX12_moved_55 : decode cX12_moved 55 = .ok (.istore 7, 2) := by decide +kernel
theorem dX12_moved_57 : decode cX12_moved 57 = .ok (.iinc 5 1, 3) := by decide +kernel
theorem dX12_moved_60 : decode cX12_moved 60 = .ok (.iload 4, 2) := by decide +kernel
theorem dX12_moved_62 : decode cX12_moved 62 = .ok (.iload 7, 2) := by decide +kernel
theorem dX12_moved_64 : decode cX12_moved 64 = .ok (.iconst 3, 1) := by decide +kernel
theorem dX12_moved_65 : decode cX12_moved 65 = .ok (.iload 6, 2) := by decide +kernel
theorem dX12_moved_67 : decode cX12_moved 67 = .ok (.imul, 1) := by decide +kernel
theorem dX12_moved_68 : decode cX12_moved 68 = .ok (.ishl, 1) := by decide +kernel
theorem dX12_moved_69 : decode cX12_moved 69 = .ok (.ior, 1) := by decide +kernel
theorem dX12_moved_70 : decode cX12_moved 70 = .ok (.istore 4, 2) := by decide +kernel
theorem dX12_moved_72 : decode cX12_moved 72 = .ok (.iinc 6 1, 3) := by decide +kernel
theorem dX12_moved_75 : decode cX12_moved 75 = .ok (.goto (-66), 3) := by decide +kernel
theorem dX12_moved_78 : decode cX12_moved 78 = .ok (.iload 4, 2) := by decide +kernel
theorem dX12_moved_80 : decode cX12_moved 80 = .ok (.ireturn, 1) := by decide +kernel
theorem dX12_isStronger_0 : decode cX12_isStronger 0 = .ok (.aload_n 0, 1) := by decide +kernel
theorem dX12_isStronger_1 : decode cX12_isStronger 1 = .ok (.getfield 9, 3) := by decide +kernel
theorem dX12_isStronger_4 : decode cX12_isStronger 4 = .ok (.sipush 130, 3) := by decide +kernel
theorem dX12_isStronger_7 : decode cX12_isStronger 7 = .ok (.bipush 6, 2) := by decide +kernel
theorem dX12_isStronger_9 : decode cX12_isStronger 9 = .ok (.iload_n 1, 1) := by decide +kernel
theorem dX12_isStronger_10 : decode cX12_isStronger 10 = .ok (.imul, 1) := by decide +kernel
theorem dX12_isStronger_11 : decode cX12_isStronger 11 = .ok (.iadd, 1) := by decide +kernel
theorem dX12_isStronger_12 : decode cX12_isStronger 12 = .ok (.iload_n 2, 1) := by decide +kernel
theorem dX12_isStronger_13 : decode cX12_isStronger 13 = .ok (.iadd, 1) := by decide +kernel
theorem dX12_isStronger_14 : decode cX12_isStronger 14 = .ok (.iaload, 1) := by decide +kernel
theorem dX12_isStronger_15 : decode cX12_isStronger 15 = .ok (.bipush 50, 2) := by decide +kernel
theorem dX12_isStronger_17 : decode cX12_isStronger 17 = .ok (.if_icmp .le 7, 3) := by decide +kernel
theorem dX12_isStronger_20 : decode cX12_isStronger 20 = .ok (.iconst 1, 1) := by decide +kernel
theorem dX12_isStronger_21 : decode cX12_isStronger 21 = .ok (.goto 4, 3) := by decide +kernel
theorem dX12_isStronger_24 : decode cX12_isStronger 24 = .ok (.iconst 0, 1) := by decide +kernel
theorem dX12_isStronger_25 : decode cX12_isStronger 25 = .ok (.ireturn, 1) := by decide +kernel
theorem dX12_trueBoard_0 : decode cX12_trueBoard 0 = .ok (.iconst 0, 1) := by decide +kernel
theorem dX12_trueBoard_1 : decode cX12_trueBoard 1 = .ok (.istore_n 1, 1) := by decide +kernel
theorem dX12_trueBoard_2 : decode cX12_trueBoard 2 = .ok (.iconst 0, 1) := by decide +kernel
theorem dX12_trueBoard_3 : decode cX12_trueBoard 3 = .ok (.istore_n 2, 1) := by decide +kernel
theorem dX12_trueBoard_4 : decode cX12_trueBoard 4 = .ok (.iconst 5, 1) := by decide +kernel
theorem dX12_trueBoard_5 : decode cX12_trueBoard 5 = .ok (.istore_n 3, 1) := by decide +kernel
theorem dX12_trueBoard_6 : decode cX12_trueBoard 6 = .ok (.iload_n 3, 1) := by decide +kernel
theorem dX12_trueBoard_7 : decode cX12_trueBoard 7 = .ok (.ifCond .lt 113, 3) := by decide +kernel
theorem dX12_trueBoard_10 : decode cX12_trueBoard 10 = .ok (.iconst 0, 1) := by decide +kernel
theorem dX12_trueBoard_11 : decode cX12_trueBoard 11 = .ok (.istore 4, 2) := by decide +kernel
theorem dX12_trueBoard_13 : decode cX12_trueBoard 13 = .ok (.iload 4, 2) := by decide +kernel
theorem dX12_trueBoard_15 : decode cX12_trueBoard 15 = .ok (.aload_n 0, 1) := by decide +kernel
theorem dX12_trueBoard_16 : decode cX12_trueBoard 16 = .ok (.getfield 9, 3) := by decide +kernel
theorem dX12_trueBoard_19 : decode cX12_trueBoard 19 = .ok (.iconst 0, 1) := by decide +kernel
theorem dX12_trueBoard_20 : decode cX12_trueBoard 20 = .ok (.iaload, 1) := by decide +kernel
theorem dX12_trueBoard_21 : decode cX12_trueBoard 21 = .ok (.if_icmp .ge 93, 3) := by decide +kernel
theorem dX12_trueBoard_24 : decode cX12_trueBoard 24 = .ok (.iconst 0, 1) := by decide +kernel
theorem dX12_trueBoard_25 : decode cX12_trueBoard 25 = .ok (.istore 5, 2) := by decide +kernel
theorem dX12_trueBoard_27 : decode cX12_trueBoard 27 = .ok (.iconst 0, 1) := by decide +kernel
theorem dX12_trueBoard_28 : decode cX12_trueBoard 28 = .ok (.istore 6, 2) := by decide +kernel
theorem dX12_trueBoard_30 : decode cX12_trueBoard 30 = .ok (.iload 6, 2) := by decide +kernel
theorem dX12_trueBoard_32 : decode cX12_trueBoard 32 = .ok (.aload_n 0, 1) := by decide +kernel
theorem dX12_trueBoard_33 : decode cX12_trueBoard 33 = .ok (.getfield 9, 3) := by decide +kernel
theorem dX12_trueBoard_36 : decode cX12_trueBoard 36 = .ok (.iconst 0, 1) := by decide +kernel
theorem dX12_trueBoard_37 : decode cX12_trueBoard 37 = .ok (.iaload, 1) := by decide +kernel
theorem dX12_trueBoard_38 : decode cX12_trueBoard 38 = .ok (.if_icmp .ge 37, 3) := by decide +kernel
theorem dX12_trueBoard_41 : decode cX12_trueBoard 41 = .ok (.iload 5, 2) := by decide +kernel
theorem dX12_trueBoard_43 : decode cX12_trueBoard 43 = .ok (.iload 4, 2) := by decide +kernel
theorem dX12_trueBoard_45 : decode cX12_trueBoard 45 = .ok (.iload 6, 2) := by decide +kernel
theorem dX12_trueBoard_47 : decode cX12_trueBoard 47 = .ok (.if_icmp .eq 18, 3) := by decide +kernel
theorem dX12_trueBoard_50 : decode cX12_trueBoard 50 = .ok (.aload_n 0, 1) := by decide +kernel
theorem dX12_trueBoard_51 : decode cX12_trueBoard 51 = .ok (.iload 4, 2) := by decide +kernel
theorem dX12_trueBoard_53 : decode cX12_trueBoard 53 = .ok (.iload 6, 2) := by decide +kernel
theorem dX12_trueBoard_55 : decode cX12_trueBoard 55 = .ok (.invokevirtual 56, 3) := by decide +kernel
theorem dX12_trueBoard_58 : decode cX12_trueBoard 58 = .ok (.ifCond .eq 7, 3) := by decide +kernel
theorem dX12_trueBoard_61 : decode cX12_trueBoard 61 = .ok (.iconst 1, 1) := by decide +kernel
theorem dX12_trueBoard_62 : decode cX12_trueBoard 62 = .ok (.goto 4, 3) := by decide +kernel
theorem dX12_trueBoard_65 : decode cX12_trueBoard 65 = .ok (.iconst 0, 1) := by decide +kernel
theorem dX12_trueBoard_66 : decode cX12_trueBoard 66 = .ok (.iadd, 1) := by decide +kernel
theorem dX12_trueBoard_67 : decode cX12_trueBoard 67 = .ok (.istore 5, 2) := by decide +kernel
theorem dX12_trueBoard_69 : decode cX12_trueBoard 69 = .ok (.iinc 6 1, 3) := by decide +kernel
theorem dX12_trueBoard_72 : decode cX12_trueBoard 72 = .ok (.goto (-42), 3) := by decide +kernel
theorem dX12_trueBoard_75 : decode cX12_trueBoard 75 = .ok (.iload_n 1, 1) := by decide +kernel
theorem dX12_trueBoard_76 : decode cX12_trueBoard 76 = .ok (.iload 5, 2) := by decide +kernel
theorem dX12_trueBoard_78 : decode cX12_trueBoard 78 = .ok (.iload_n 3, 1) := by decide +kernel
theorem dX12_trueBoard_79 : decode cX12_trueBoard 79 = .ok (.if_icmp .ne 12, 3) := by decide +kernel
theorem dX12_trueBoard_82 : decode cX12_trueBoard 82 = .ok (.iload 4, 2) := by decide +kernel
theorem dX12_trueBoard_84 : decode cX12_trueBoard 84 = .ok (.iconst 3, 1) := by decide +kernel
theorem dX12_trueBoard_85 : decode cX12_trueBoard 85 = .ok (.iload_n 2, 1) := by decide +kernel
theorem dX12_trueBoard_86 : decode cX12_trueBoard 86 = .ok (.imul, 1) := by decide +kernel
theorem dX12_trueBoard_87 : decode cX12_trueBoard 87 = .ok (.ishl, 1) := by decide +kernel
theorem dX12_trueBoard_88 : decode cX12_trueBoard 88 = .ok (.goto 4, 3) := by decide +kernel
theorem dX12_trueBoard_91 : decode cX12_trueBoard 91 = .ok (.iconst 0, 1) := by decide +kernel
theorem dX12_trueBoard_92 : decode cX12_trueBoard 92 = .ok (.ior, 1) := by decide +kernel
theorem dX12_trueBoard_93 : decode cX12_trueBoard 93 = .ok (.istore_n 1, 1) := by decide +kernel
theorem dX12_trueBoard_94 : decode cX12_trueBoard 94 = .ok (.iload_n 2, 1) := by decide +kernel
theorem dX12_trueBoard_95 : decode cX12_trueBoard 95 = .ok (.iload 5, 2) := by decide +kernel
theorem dX12_trueBoard_97 : decode cX12_trueBoard 97 = .ok (.iload_n 3, 1) := by decide +kernel
theorem dX12_trueBoard_98 : decode cX12_trueBoard 98 = .ok (.if_icmp .ne 7, 3) := by decide +kernel
theorem dX12_trueBoard_101 : decode cX12_trueBoard 101 = .ok (.iconst 1, 1) := by decide +kernel
theorem dX12_trueBoard_102 : decode cX12_trueBoard 102 = .ok (.goto 4, 3) := by decide +kernel
theorem dX12_trueBoard_105 : decode cX12_trueBoard 105 = .ok (.iconst 0, 1) := by decide +kernel
theorem dX12_trueBoard_106 : decode cX12_trueBoard 106 = .ok (.iadd, 1) := by decide +kernel
theorem dX12_trueBoard_107 : decode cX12_trueBoard 107 = .ok (.istore_n 2, 1) := by decide +kernel
theorem dX12_trueBoard_108 : decode cX12_trueBoard 108 = .ok (.iinc 4 1, 3) := by decide +kernel
theorem dX12_trueBoard_111 : decode cX12_trueBoard 111 = .ok (.goto (-98), 3) := by decide +kernel
theorem dX12_trueBoard_114 : decode cX12_trueBoard 114 = .ok (.iinc 3 (-1), 3) := by decide +kernel
theorem dX12_trueBoard_117 : decode cX12_trueBoard 117 = .ok (.goto (-111), 3) := by decide +kernel
theorem dX12_trueBoard_120 : decode cX12_trueBoard 120 = .ok (.iload_n 1, 1) := by decide +kernel
theorem dX12_trueBoard_121 : decode cX12_trueBoard 121 = .ok (.ireturn, 1) := by decide +kernel
theorem dX12_name_0 : decode cX12_name 0 = .ok (.aload_n 0, 1) := by decide +kernel
theorem dX12_name_1 : decode cX12_name 1 = .ok (.getfield 9, 3) := by decide +kernel
theorem dX12_name_4 : decode cX12_name 4 = .ok (.iconst 0, 1) := by decide +kernel
theorem dX12_name_5 : decode cX12_name 5 = .ok (.iaload, 1) := by decide +kernel
theorem dX12_name_6 : decode cX12_name 6 = .ok (.bipush 6, 2) := by decide +kernel
theorem dX12_name_8 : decode cX12_name 8 = .ok (.if_icmp .ne 6, 3) := by decide +kernel
theorem dX12_name_11 : decode cX12_name 11 = .ok (.bipush (-4), 2) := by decide +kernel
theorem dX12_name_13 : decode cX12_name 13 = .ok (.ireturn, 1) := by decide +kernel
theorem dX12_name_14 : decode cX12_name 14 = .ok (.aload_n 0, 1) := by decide +kernel
theorem dX12_name_15 : decode cX12_name 15 = .ok (.getfield 9, 3) := by decide +kernel
theorem dX12_name_18 : decode cX12_name 18 = .ok (.iconst 0, 1) := by decide +kernel
theorem dX12_name_19 : decode cX12_name 19 = .ok (.iaload, 1) := by decide +kernel
theorem dX12_name_20 : decode cX12_name 20 = .ok (.istore_n 1, 1) := by decide +kernel
theorem dX12_name_21 : decode cX12_name 21 = .ok (.iconst 0, 1) := by decide +kernel
theorem dX12_name_22 : decode cX12_name 22 = .ok (.istore_n 2, 1) := by decide +kernel
theorem dX12_name_23 : decode cX12_name 23 = .ok (.iload_n 2, 1) := by decide +kernel
theorem dX12_name_24 : decode cX12_name 24 = .ok (.bipush 6, 2) := by decide +kernel
theorem dX12_name_26 : decode cX12_name 26 = .ok (.if_icmp .ge 43, 3) := by decide +kernel
theorem dX12_name_29 : decode cX12_name 29 = .ok (.aload_n 0, 1) := by decide +kernel
theorem dX12_name_30 : decode cX12_name 30 = .ok (.getfield 9, 3) := by decide +kernel
theorem dX12_name_33 : decode cX12_name 33 = .ok (.sipush 130, 3) := by decide +kernel
theorem dX12_name_36 : decode cX12_name 36 = .ok (.bipush 6, 2) := by decide +kernel
theorem dX12_name_38 : decode cX12_name 38 = .ok (.iload_n 1, 1) := by decide +kernel
theorem dX12_name_39 : decode cX12_name 39 = .ok (.imul, 1) := by decide +kernel
theorem dX12_name_40 : decode cX12_name 40 = .ok (.iadd, 1) := by decide +kernel
theorem dX12_name_41 : decode cX12_name 41 = .ok (.iload_n 2, 1) := by decide +kernel
theorem dX12_name_42 : decode cX12_name 42 = .ok (.iadd, 1) := by decide +kernel
theorem dX12_name_43 : decode cX12_name 43 = .ok (.bipush 50, 2) := by decide +kernel
theorem dX12_name_45 : decode cX12_name 45 = .ok (.iastore, 1) := by decide +kernel
theorem dX12_name_46 : decode cX12_name 46 = .ok (.aload_n 0, 1) := by decide +kernel
theorem dX12_name_47 : decode cX12_name 47 = .ok (.getfield 9, 3) := by decide +kernel
theorem dX12_name_50 : decode cX12_name 50 = .ok (.sipush 130, 3) := by decide +kernel
theorem dX12_name_53 : decode cX12_name 53 = .ok (.bipush 6, 2) := by decide +kernel
theorem dX12_name_55 : decode cX12_name 55 = .ok (.iload_n 2, 1) := by decide +kernel
theorem dX12_name_56 : decode cX12_name 56 = .ok (.imul, 1) := by decide +kernel
theorem dX12_name_57 : decode cX12_name 57 = .ok (.iadd, 1) := by decide +kernel
theorem dX12_name_58 : decode cX12_name 58 = .ok (.iload_n 1, 1) := by decide +kernel
theorem dX12_name_59 : decode cX12_name 59 = .ok (.iadd, 1) := by decide +kernel
theorem dX12_name_60 : decode cX12_name 60 = .ok (.bipush 50, 2) := by decide +kernel
theorem dX12_name_62 : decode cX12_name 62 = .ok (.iastore, 1) := by decide +kernel
theorem dX12_name_63 : decode cX12_name 63 = .ok (.iinc 2 1, 3) := by decide +kernel
theorem dX12_name_66 : decode cX12_name 66 = .ok (.goto (-43), 3) := by decide +kernel
theorem dX12_name_69 : decode cX12_name 69 = .ok (.aload_n 0, 1) := by decide +kernel
theorem dX12_name_70 : decode cX12_name 70 = .ok (.getfield 9, 3) := by decide +kernel
theorem dX12_name_73 : decode cX12_name 73 = .ok (.sipush 166, 3) := by decide +kernel
theorem dX12_name_76 : decode cX12_name 76 = .ok (.iload_n 1, 1) := by decide +kernel
theorem dX12_name_77 : decode cX12_name 77 = .ok (.iadd, 1) := by decide +kernel
theorem dX12_name_78 : decode cX12_name 78 = .ok (.iconst 0, 1) := by decide +kernel
theorem dX12_name_79 : decode cX12_name 79 = .ok (.iastore, 1) := by decide +kernel
theorem dX12_name_80 : decode cX12_name 80 = .ok (.aload_n 0, 1) := by decide +kernel
theorem dX12_name_81 : decode cX12_name 81 = .ok (.getfield 9, 3) := by decide +kernel
theorem dX12_name_84 : decode cX12_name 84 = .ok (.sipush 172, 3) := by decide +kernel
theorem dX12_name_87 : decode cX12_name 87 = .ok (.iload_n 1, 1) := by decide +kernel
theorem dX12_name_88 : decode cX12_name 88 = .ok (.iadd, 1) := by decide +kernel
theorem dX12_name_89 : decode cX12_name 89 = .ok (.iconst 0, 1) := by decide +kernel
theorem dX12_name_90 : decode cX12_name 90 = .ok (.iastore, 1) := by decide +kernel
theorem dX12_name_91 : decode cX12_name 91 = .ok (.aload_n 0, 1) := by decide +kernel
theorem dX12_name_92 : decode cX12_name 92 = .ok (.getfield 9, 3) := by decide +kernel
theorem dX12_name_95 : decode cX12_name 95 = .ok (.bipush 6, 2) := by decide +kernel
theorem dX12_name_97 : decode cX12_name 97 = .ok (.dup2, 1) := by decide +kernel
theorem dX12_name_98 : decode cX12_name 98 = .ok (.iaload, 1) := by decide +kernel
theorem dX12_name_99 : decode cX12_name 99 = .ok (.iload_n 1, 1) := by decide +kernel
theorem dX12_name_100 : decode cX12_name 100 = .ok (.iconst 3, 1) := by decide +kernel
theorem dX12_name_101 : decode cX12_name 101 = .ok (.iload_n 1, 1) := by decide +kernel
theorem dX12_name_102 : decode cX12_name 102 = .ok (.imul, 1) := by decide +kernel
theorem dX12_name_103 : decode cX12_name 103 = .ok (.ishl, 1) := by decide +kernel
theorem dX12_name_104 : decode cX12_name 104 = .ok (.ior, 1) := by decide +kernel
theorem dX12_name_105 : decode cX12_name 105 = .ok (.iastore, 1) := by decide +kernel
theorem dX12_name_106 : decode cX12_name 106 = .ok (.aload_n 0, 1) := by decide +kernel
theorem dX12_name_107 : decode cX12_name 107 = .ok (.getfield 9, 3) := by decide +kernel
theorem dX12_name_110 : decode cX12_name 110 = .ok (.iconst 0, 1) := by decide +kernel
theorem dX12_name_111 : decode cX12_name 111 = .ok (.dup2, 1) := by decide +kernel
theorem dX12_name_112 : decode cX12_name 112 = .ok (.iaload, 1) := by decide +kernel
theorem dX12_name_113 : decode cX12_name 113 = .ok (.iconst 1, 1) := by decide +kernel
theorem dX12_name_114 : decode cX12_name 114 = .ok (.iadd, 1) := by decide +kernel
theorem dX12_name_115 : decode cX12_name 115 = .ok (.iastore, 1) := by decide +kernel
theorem dX12_name_116 : decode cX12_name 116 = .ok (.iload_n 1, 1) := by decide +kernel
theorem dX12_name_117 : decode cX12_name 117 = .ok (.ireturn, 1) := by decide +kernel
theorem dX12_chance_0 : decode cX12_chance 0 = .ok (.aload_n 0, 1) := by decide +kernel
theorem dX12_chance_1 : decode cX12_chance 1 = .ok (.iload_n 1, 1) := by decide +kernel
theorem dX12_chance_2 : decode cX12_chance 2 = .ok (.invokevirtual 60, 3) := by decide +kernel
theorem dX12_chance_5 : decode cX12_chance 5 = .ok (.ifCond .eq 11, 3) := by decide +kernel
theorem dX12_chance_8 : decode cX12_chance 8 = .ok (.aload_n 0, 1) := by decide +kernel
theorem dX12_chance_9 : decode cX12_chance 9 = .ok (.iload_n 2, 1) := by decide +kernel
theorem dX12_chance_10 : decode cX12_chance 10 = .ok (.invokevirtual 60, 3) := by decide +kernel
theorem dX12_chance_13 : decode cX12_chance 13 = .ok (.ifCond .ne 5, 3) := by decide +kernel
theorem dX12_chance_16 : decode cX12_chance 16 = .ok (.iconst (-1), 1) := by decide +kernel
theorem dX12_chance_17 : decode cX12_chance 17 = .ok (.ireturn, 1) := by decide +kernel
theorem dX12_chance_18 : decode cX12_chance 18 = .ok (.iload_n 1, 1) := by decide +kernel
theorem dX12_chance_19 : decode cX12_chance 19 = .ok (.iload_n 2, 1) := by decide +kernel
theorem dX12_chance_20 : decode cX12_chance 20 = .ok (.if_icmp .eq 13, 3) := by decide +kernel
theorem dX12_chance_23 : decode cX12_chance 23 = .ok (.iload_n 3, 1) := by decide +kernel
theorem dX12_chance_24 : decode cX12_chance 24 = .ok (.iconst 0, 1) := by decide +kernel
theorem dX12_chance_25 : decode cX12_chance 25 = .ok (.bipush 100, 2) := by decide +kernel
theorem dX12_chance_27 : decode cX12_chance 27 = .ok (.invokestatic 48, 3) := by decide +kernel
theorem dX12_chance_30 : decode cX12_chance 30 = .ok (.ifCond .ne 6, 3) := by decide +kernel
theorem dX12_chance_33 : decode cX12_chance 33 = .ok (.bipush (-2), 2) := by decide +kernel
theorem dX12_chance_35 : decode cX12_chance 35 = .ok (.ireturn, 1) := by decide +kernel
theorem dX12_chance_36 : decode cX12_chance 36 = .ok (.aload_n 0, 1) := by decide +kernel
theorem dX12_chance_37 : decode cX12_chance 37 = .ok (.getfield 9, 3) := by decide +kernel
theorem dX12_chance_40 : decode cX12_chance 40 = .ok (.sipush 130, 3) := by decide +kernel
theorem dX12_chance_43 : decode cX12_chance 43 = .ok (.bipush 6, 2) := by decide +kernel
theorem dX12_chance_45 : decode cX12_chance 45 = .ok (.iload_n 1, 1) := by decide +kernel
theorem dX12_chance_46 : decode cX12_chance 46 = .ok (.imul, 1) := by decide +kernel
theorem dX12_chance_47 : decode cX12_chance 47 = .ok (.iadd, 1) := by decide +kernel
theorem dX12_chance_48 : decode cX12_chance 48 = .ok (.iload_n 2, 1) := by decide +kernel
theorem dX12_chance_49 : decode cX12_chance 49 = .ok (.iadd, 1) := by decide +kernel
theorem dX12_chance_50 : decode cX12_chance 50 = .ok (.iaload, 1) := by decide +kernel
theorem dX12_chance_51 : decode cX12_chance 51 = .ok (.istore 4, 2) := by decide +kernel
theorem dX12_chance_53 : decode cX12_chance 53 = .ok (.aload_n 0, 1) := by decide +kernel
theorem dX12_chance_54 : decode cX12_chance 54 = .ok (.getfield 9, 3) := by decide +kernel
theorem dX12_chance_57 : decode cX12_chance 57 = .ok (.sipush 130, 3) := by decide +kernel
theorem dX12_chance_60 : decode cX12_chance 60 = .ok (.bipush 6, 2) := by decide +kernel
theorem dX12_chance_62 : decode cX12_chance 62 = .ok (.iload_n 1, 1) := by decide +kernel
theorem dX12_chance_63 : decode cX12_chance 63 = .ok (.imul, 1) := by decide +kernel
theorem dX12_chance_64 : decode cX12_chance 64 = .ok (.iadd, 1) := by decide +kernel
theorem dX12_chance_65 : decode cX12_chance 65 = .ok (.iload_n 2, 1) := by decide +kernel
theorem dX12_chance_66 : decode cX12_chance 66 = .ok (.iadd, 1) := by decide +kernel
theorem dX12_chance_67 : decode cX12_chance 67 = .ok (.iload_n 3, 1) := by decide +kernel
theorem dX12_chance_68 : decode cX12_chance 68 = .ok (.iastore, 1) := by decide +kernel
theorem dX12_chance_69 : decode cX12_chance 69 = .ok (.aload_n 0, 1) := by decide +kernel
theorem dX12_chance_70 : decode cX12_chance 70 = .ok (.getfield 9, 3) := by decide +kernel
theorem dX12_chance_73 : decode cX12_chance 73 = .ok (.sipush 130, 3) := by decide +kernel
theorem dX12_chance_76 : decode cX12_chance 76 = .ok (.bipush 6, 2) := by decide +kernel
theorem dX12_chance_78 : decode cX12_chance 78 = .ok (.iload_n 2, 1) := by decide +kernel
theorem dX12_chance_79 : decode cX12_chance 79 = .ok (.imul, 1) := by decide +kernel
theorem dX12_chance_80 : decode cX12_chance 80 = .ok (.iadd, 1) := by decide +kernel
theorem dX12_chance_81 : decode cX12_chance 81 = .ok (.iload_n 1, 1) := by decide +kernel
theorem dX12_chance_82 : decode cX12_chance 82 = .ok (.iadd, 1) := by decide +kernel
theorem dX12_chance_83 : decode cX12_chance 83 = .ok (.bipush 100, 2) := by decide +kernel
theorem dX12_chance_85 : decode cX12_chance 85 = .ok (.iload_n 3, 1) := by decide +kernel
theorem dX12_chance_86 : decode cX12_chance 86 = .ok (.isub, 1) := by decide +kernel
theorem dX12_chance_87 : decode cX12_chance 87 = .ok (.iastore, 1) := by decide +kernel
theorem dX12_chance_88 : decode cX12_chance 88 = .ok (.iload 4, 2) := by decide +kernel
theorem dX12_chance_90 : decode cX12_chance 90 = .ok (.ireturn, 1) := by decide +kernel
theorem dX12_beats_0 : decode cX12_beats 0 = .ok (.aload_n 0, 1) := by decide +kernel
theorem dX12_beats_1 : decode cX12_beats 1 = .ok (.iload_n 1, 1) := by decide +kernel
theorem dX12_beats_2 : decode cX12_beats 2 = .ok (.invokevirtual 60, 3) := by decide +kernel
theorem dX12_beats_5 : decode cX12_beats 5 = .ok (.ifCond .eq 11, 3) := by decide +kernel
theorem dX12_beats_8 : decode cX12_beats 8 = .ok (.aload_n 0, 1) := by decide +kernel
theorem dX12_beats_9 : decode cX12_beats 9 = .ok (.iload_n 2, 1) := by decide +kernel
theorem dX12_beats_10 : decode cX12_beats 10 = .ok (.invokevirtual 60, 3) := by decide +kernel
theorem dX12_beats_13 : decode cX12_beats 13 = .ok (.ifCond .ne 5, 3) := by decide +kernel
theorem dX12_beats_16 : decode cX12_beats 16 = .ok (.iconst (-1), 1) := by decide +kernel
theorem dX12_beats_17 : decode cX12_beats 17 = .ok (.ireturn, 1) := by decide +kernel
theorem dX12_beats_18 : decode cX12_beats 18 = .ok (.iload_n 1, 1) := by decide +kernel
theorem dX12_beats_19 : decode cX12_beats 19 = .ok (.iload_n 2, 1) := by decide +kernel
theorem dX12_beats_20 : decode cX12_beats 20 = .ok (.if_icmp .ne 8, 3) := by decide +kernel
theorem dX12_beats_23 : decode cX12_beats 23 = .ok (.bipush (-2), 2) := by decide +kernel
theorem dX12_beats_25 : decode cX12_beats 25 = .ok (.goto 18, 3) := by decide +kernel
theorem dX12_beats_28 : decode cX12_beats 28 = .ok (.aload_n 0, 1) := by decide +kernel
theorem dX12_beats_29 : decode cX12_beats 29 = .ok (.getfield 9, 3) := by decide +kernel
theorem dX12_beats_32 : decode cX12_beats 32 = .ok (.sipush 130, 3) := by decide +kernel
theorem dX12_beats_35 : decode cX12_beats 35 = .ok (.bipush 6, 2) := by decide +kernel
theorem dX12_beats_37 : decode cX12_beats 37 = .ok (.iload_n 1, 1) := by decide +kernel
theorem dX12_beats_38 : decode cX12_beats 38 = .ok (.imul, 1) := by decide +kernel
theorem dX12_beats_39 : decode cX12_beats 39 = .ok (.iadd, 1) := by decide +kernel
theorem dX12_beats_40 : decode cX12_beats 40 = .ok (.iload_n 2, 1) := by decide +kernel
theorem dX12_beats_41 : decode cX12_beats 41 = .ok (.iadd, 1) := by decide +kernel
theorem dX12_beats_42 : decode cX12_beats 42 = .ok (.iaload, 1) := by decide +kernel
theorem dX12_beats_43 : decode cX12_beats 43 = .ok (.ireturn, 1) := by decide +kernel
theorem dX12_board_0 : decode cX12_board 0 = .ok (.iload_n 1, 1) := by decide +kernel
theorem dX12_board_1 : decode cX12_board 1 = .ok (.iconst 0, 1) := by decide +kernel
theorem dX12_board_2 : decode cX12_board 2 = .ok (.aload_n 0, 1) := by decide +kernel
theorem dX12_board_3 : decode cX12_board 3 = .ok (.getfield 9, 3) := by decide +kernel
theorem dX12_board_6 : decode cX12_board 6 = .ok (.iconst 0, 1) := by decide +kernel
theorem dX12_board_7 : decode cX12_board 7 = .ok (.iaload, 1) := by decide +kernel
theorem dX12_board_8 : decode cX12_board 8 = .ok (.iconst 1, 1) := by decide +kernel
theorem dX12_board_9 : decode cX12_board 9 = .ok (.isub, 1) := by decide +kernel
theorem dX12_board_10 : decode cX12_board 10 = .ok (.invokestatic 48, 3) := by decide +kernel
theorem dX12_board_13 : decode cX12_board 13 = .ok (.ifCond .eq 37, 3) := by decide +kernel
theorem dX12_board_16 : decode cX12_board 16 = .ok (.iload_n 2, 1) := by decide +kernel
theorem dX12_board_17 : decode cX12_board 17 = .ok (.iconst 0, 1) := by decide +kernel
theorem dX12_board_18 : decode cX12_board 18 = .ok (.iconst 1, 1) := by decide +kernel
theorem dX12_board_19 : decode cX12_board 19 = .ok (.invokestatic 48, 3) := by decide +kernel
theorem dX12_board_22 : decode cX12_board 22 = .ok (.ifCond .eq 28, 3) := by decide +kernel
theorem dX12_board_25 : decode cX12_board 25 = .ok (.iload_n 2, 1) := by decide +kernel
theorem dX12_board_26 : decode cX12_board 26 = .ok (.ifCond .ne 13, 3) := by decide +kernel
theorem dX12_board_29 : decode cX12_board 29 = .ok (.aload_n 0, 1) := by decide +kernel
theorem dX12_board_30 : decode cX12_board 30 = .ok (.getfield 9, 3) := by decide +kernel
theorem dX12_board_33 : decode cX12_board 33 = .ok (.bipush 6, 2) := by decide +kernel
theorem dX12_board_35 : decode cX12_board 35 = .ok (.iaload, 1) := by decide +kernel
theorem dX12_board_36 : decode cX12_board 36 = .ok (.goto 7, 3) := by decide +kernel
theorem dX12_board_39 : decode cX12_board 39 = .ok (.aload_n 0, 1) := by decide +kernel
theorem dX12_board_40 : decode cX12_board 40 = .ok (.invokevirtual 64, 3) := by decide +kernel
theorem dX12_board_43 : decode cX12_board 43 = .ok (.iload_n 1, 1) := by decide +kernel
theorem dX12_board_44 : decode cX12_board 44 = .ok (.invokestatic 52, 3) := by decide +kernel
theorem dX12_board_47 : decode cX12_board 47 = .ok (.goto 4, 3) := by decide +kernel
theorem dX12_board_50 : decode cX12_board 50 = .ok (.iconst (-1), 1) := by decide +kernel
theorem dX12_board_51 : decode cX12_board 51 = .ok (.ireturn, 1) := by decide +kernel
theorem dX12_hang_0 : decode cX12_hang 0 = .ok (.aload_n 0, 1) := by decide +kernel
theorem dX12_hang_1 : decode cX12_hang 1 = .ok (.iload_n 1, 1) := by decide +kernel
theorem dX12_hang_2 : decode cX12_hang 2 = .ok (.invokevirtual 60, 3) := by decide +kernel
theorem dX12_hang_5 : decode cX12_hang 5 = .ok (.ifCond .eq 19, 3) := by decide +kernel
theorem dX12_hang_8 : decode cX12_hang 8 = .ok (.iload_n 2, 1) := by decide +kernel
theorem dX12_hang_9 : decode cX12_hang 9 = .ok (.iconst 0, 1) := by decide +kernel
theorem dX12_hang_10 : decode cX12_hang 10 = .ok (.aload_n 0, 1) := by decide +kernel
theorem dX12_hang_11 : decode cX12_hang 11 = .ok (.getfield 9, 3) := by decide +kernel
theorem dX12_hang_14 : decode cX12_hang 14 = .ok (.iconst 0, 1) := by decide +kernel
theorem dX12_hang_15 : decode cX12_hang 15 = .ok (.iaload, 1) := by decide +kernel
theorem dX12_hang_16 : decode cX12_hang 16 = .ok (.iconst 1, 1) := by decide +kernel
theorem dX12_hang_17 : decode cX12_hang 17 = .ok (.isub, 1) := by decide +kernel
theorem dX12_hang_18 : decode cX12_hang 18 = .ok (.invokestatic 48, 3) := by decide +kernel
theorem dX12_hang_21 : decode cX12_hang 21 = .ok (.ifCond .ne 5, 3) := by decide +kernel
theorem dX12_hang_24 : decode cX12_hang 24 = .ok (.iconst (-1), 1) := by decide +kernel
theorem dX12_hang_25 : decode cX12_hang 25 = .ok (.ireturn, 1) := by decide +kernel
theorem dX12_hang_26 : decode cX12_hang 26 = .ok (.aload_n 0, 1) := by decide +kernel
theorem dX12_hang_27 : decode cX12_hang 27 = .ok (.aload_n 0, 1) := by decide +kernel
theorem dX12_hang_28 : decode cX12_hang 28 = .ok (.getfield 9, 3) := by decide +kernel
theorem dX12_hang_31 : decode cX12_hang 31 = .ok (.bipush 6, 2) := by decide +kernel
theorem dX12_hang_33 : decode cX12_hang 33 = .ok (.iaload, 1) := by decide +kernel
theorem dX12_hang_34 : decode cX12_hang 34 = .ok (.iload_n 1, 1) := by decide +kernel
theorem dX12_hang_35 : decode cX12_hang 35 = .ok (.invokevirtual 68, 3) := by decide +kernel
theorem dX12_hang_38 : decode cX12_hang 38 = .ok (.istore_n 3, 1) := by decide +kernel
theorem dX12_hang_39 : decode cX12_hang 39 = .ok (.aload_n 0, 1) := by decide +kernel
theorem dX12_hang_40 : decode cX12_hang 40 = .ok (.getfield 9, 3) := by decide +kernel
theorem dX12_hang_43 : decode cX12_hang 43 = .ok (.bipush 6, 2) := by decide +kernel
theorem dX12_hang_45 : decode cX12_hang 45 = .ok (.aload_n 0, 1) := by decide +kernel
theorem dX12_hang_46 : decode cX12_hang 46 = .ok (.aload_n 0, 1) := by decide +kernel
theorem dX12_hang_47 : decode cX12_hang 47 = .ok (.getfield 9, 3) := by decide +kernel
theorem dX12_hang_50 : decode cX12_hang 50 = .ok (.bipush 6, 2) := by decide +kernel
theorem dX12_hang_52 : decode cX12_hang 52 = .ok (.iaload, 1) := by decide +kernel
theorem dX12_hang_53 : decode cX12_hang 53 = .ok (.iload_n 1, 1) := by decide +kernel
theorem dX12_hang_54 : decode cX12_hang 54 = .ok (.iload_n 2, 1) := by decide +kernel
theorem dX12_hang_55 : decode cX12_hang 55 = .ok (.invokevirtual 71, 3) := by decide +kernel
theorem dX12_hang_58 : decode cX12_hang 58 = .ok (.iastore, 1) := by decide +kernel
theorem dX12_hang_59 : decode cX12_hang 59 = .ok (.iload_n 3, 1) := by decide +kernel
theorem dX12_hang_60 : decode cX12_hang 60 = .ok (.ireturn, 1) := by decide +kernel
theorem dX12_far_0 : decode cX12_far 0 = .ok (.aload_n 0, 1) := by decide +kernel
theorem dX12_far_1 : decode cX12_far 1 = .ok (.invokevirtual 64, 3) := by decide +kernel
theorem dX12_far_4 : decode cX12_far 4 = .ok (.istore_n 1, 1) := by decide +kernel
theorem dX12_far_5 : decode cX12_far 5 = .ok (.iconst 0, 1) := by decide +kernel
theorem dX12_far_6 : decode cX12_far 6 = .ok (.istore_n 2, 1) := by decide +kernel
theorem dX12_far_7 : decode cX12_far 7 = .ok (.iconst 0, 1) := by decide +kernel
theorem dX12_far_8 : decode cX12_far 8 = .ok (.istore_n 3, 1) := by decide +kernel
theorem dX12_far_9 : decode cX12_far 9 = .ok (.iload_n 3, 1) := by decide +kernel
theorem dX12_far_10 : decode cX12_far 10 = .ok (.aload_n 0, 1) := by decide +kernel
theorem dX12_far_11 : decode cX12_far 11 = .ok (.getfield 9, 3) := by decide +kernel
theorem dX12_far_14 : decode cX12_far 14 = .ok (.iconst 0, 1) := by decide +kernel
theorem dX12_far_15 : decode cX12_far 15 = .ok (.iaload, 1) := by decide +kernel
theorem dX12_far_16 : decode cX12_far 16 = .ok (.if_icmp .ge 89, 3) := by decide +kernel
theorem dX12_far_19 : decode cX12_far 19 = .ok (.iconst 0, 1) := by decide +kernel
theorem dX12_far_20 : decode cX12_far 20 = .ok (.istore 4, 2) := by decide +kernel
theorem dX12_far_22 : decode cX12_far 22 = .ok (.iload 4, 2) := by decide +kernel
theorem dX12_far_24 : decode cX12_far 24 = .ok (.iload_n 3, 1) := by decide +kernel
theorem dX12_far_25 : decode cX12_far 25 = .ok (.if_icmp .ge 74, 3) := by decide +kernel
theorem dX12_far_28 : decode cX12_far 28 = .ok (.iload_n 2, 1) := by decide +kernel
theorem dX12_far_29 : decode cX12_far 29 = .ok (.aload_n 0, 1) := by decide +kernel
theorem dX12_far_30 : decode cX12_far 30 = .ok (.iload_n 1, 1) := by decide +kernel
theorem dX12_far_31 : decode cX12_far 31 = .ok (.iload_n 3, 1) := by decide +kernel
theorem dX12_far_32 : decode cX12_far 32 = .ok (.invokevirtual 68, 3) := by decide +kernel
theorem dX12_far_35 : decode cX12_far 35 = .ok (.aload_n 0, 1) := by decide +kernel
theorem dX12_far_36 : decode cX12_far 36 = .ok (.iload_n 1, 1) := by decide +kernel
theorem dX12_far_37 : decode cX12_far 37 = .ok (.iload 4, 2) := by decide +kernel
theorem dX12_far_39 : decode cX12_far 39 = .ok (.invokevirtual 68, 3) := by decide +kernel
theorem dX12_far_42 : decode cX12_far 42 = .ok (.if_icmp .ge 7, 3) := by decide +kernel
theorem dX12_far_45 : decode cX12_far 45 = .ok (.iconst 1, 1) := by decide +kernel
theorem dX12_far_46 : decode cX12_far 46 = .ok (.goto 4, 3) := by decide +kernel
theorem dX12_far_49 : decode cX12_far 49 = .ok (.iconst 0, 1) := by decide +kernel
theorem dX12_far_50 : decode cX12_far 50 = .ok (.aload_n 0, 1) := by decide +kernel
theorem dX12_far_51 : decode cX12_far 51 = .ok (.aload_n 0, 1) := by decide +kernel
theorem dX12_far_52 : decode cX12_far 52 = .ok (.getfield 9, 3) := by decide +kernel
theorem dX12_far_55 : decode cX12_far 55 = .ok (.bipush 6, 2) := by decide +kernel
theorem dX12_far_57 : decode cX12_far 57 = .ok (.iaload, 1) := by decide +kernel
theorem dX12_far_58 : decode cX12_far 58 = .ok (.iload_n 3, 1) := by decide +kernel
theorem dX12_far_59 : decode cX12_far 59 = .ok (.invokevirtual 68, 3) := by decide +kernel
theorem dX12_far_62 : decode cX12_far 62 = .ok (.aload_n 0, 1) := by decide +kernel
theorem dX12_far_63 : decode cX12_far 63 = .ok (.aload_n 0, 1) := by decide +kernel
theorem dX12_far_64 : decode cX12_far 64 = .ok (.getfield 9, 3) := by decide +kernel
theorem dX12_far_67 : decode cX12_far 67 = .ok (.bipush 6, 2) := by decide +kernel
theorem dX12_far_69 : decode cX12_far 69 = .ok (.iaload, 1) := by decide +kernel
theorem dX12_far_70 : decode cX12_far 70 = .ok (.iload 4, 2) := by decide +kernel
theorem dX12_far_72 : decode cX12_far 72 = .ok (.invokevirtual 68, 3) := by decide +kernel
theorem dX12_far_75 : decode cX12_far 75 = .ok (.if_icmp .ge 7, 3) := by decide +kernel
theorem dX12_far_78 : decode cX12_far 78 = .ok (.iconst 1, 1) := by decide +kernel
theorem dX12_far_79 : decode cX12_far 79 = .ok (.goto 4, 3) := by decide +kernel
theorem dX12_far_82 : decode cX12_far 82 = .ok (.iconst 0, 1) := by decide +kernel
theorem dX12_far_83 : decode cX12_far 83 = .ok (.if_icmp .eq 7, 3) := by decide +kernel
theorem dX12_far_86 : decode cX12_far 86 = .ok (.iconst 1, 1) := by decide +kernel
theorem dX12_far_87 : decode cX12_far 87 = .ok (.goto 4, 3) := by decide +kernel
theorem dX12_far_90 : decode cX12_far 90 = .ok (.iconst 0, 1) := by decide +kernel
theorem dX12_far_91 : decode cX12_far 91 = .ok (.iadd, 1) := by decide +kernel
theorem dX12_far_92 : decode cX12_far 92 = .ok (.istore_n 2, 1) := by decide +kernel
theorem dX12_far_93 : decode cX12_far 93 = .ok (.iinc 4 1, 3) := by decide +kernel
theorem dX12_far_96 : decode cX12_far 96 = .ok (.goto (-74), 3) := by decide +kernel
theorem dX12_far_99 : decode cX12_far 99 = .ok (.iinc 3 1, 3) := by decide +kernel
theorem dX12_far_102 : decode cX12_far 102 = .ok (.goto (-93), 3) := by decide +kernel
theorem dX12_far_105 : decode cX12_far 105 = .ok (.iload_n 2, 1) := by decide +kernel
theorem dX12_far_106 : decode cX12_far 106 = .ok (.ireturn, 1) := by decide +kernel
theorem dX12_feed_0 : decode cX12_feed 0 = .ok (.iload_n 3, 1) := by decide +kernel
theorem dX12_feed_1 : decode cX12_feed 1 = .ok (.iconst 1, 1) := by decide +kernel
theorem dX12_feed_2 : decode cX12_feed 2 = .ok (.bipush 8, 2) := by decide +kernel
theorem dX12_feed_4 : decode cX12_feed 4 = .ok (.invokestatic 48, 3) := by decide +kernel
theorem dX12_feed_7 : decode cX12_feed 7 = .ok (.ifCond .ne 6, 3) := by decide +kernel
theorem dX12_feed_10 : decode cX12_feed 10 = .ok (.bipush (-2), 2) := by decide +kernel
theorem dX12_feed_12 : decode cX12_feed 12 = .ok (.ireturn, 1) := by decide +kernel
theorem dX12_feed_13 : decode cX12_feed 13 = .ok (.aload_n 0, 1) := by decide +kernel
theorem dX12_feed_14 : decode cX12_feed 14 = .ok (.getfield 9, 3) := by decide +kernel
theorem dX12_feed_17 : decode cX12_feed 17 = .ok (.iconst 5, 1) := by decide +kernel
theorem dX12_feed_18 : decode cX12_feed 18 = .ok (.iaload, 1) := by decide +kernel
theorem dX12_feed_19 : decode cX12_feed 19 = .ok (.iload_n 3, 1) := by decide +kernel
theorem dX12_feed_20 : decode cX12_feed 20 = .ok (.iadd, 1) := by decide +kernel
theorem dX12_feed_21 : decode cX12_feed 21 = .ok (.bipush 120, 2) := by decide +kernel
theorem dX12_feed_23 : decode cX12_feed 23 = .ok (.if_icmp .le 6, 3) := by decide +kernel
theorem dX12_feed_26 : decode cX12_feed 26 = .ok (.bipush (-4), 2) := by decide +kernel
theorem dX12_feed_28 : decode cX12_feed 28 = .ok (.ireturn, 1) := by decide +kernel
theorem dX12_feed_29 : decode cX12_feed 29 = .ok (.iload_n 3, 1) := by decide +kernel
theorem dX12_feed_30 : decode cX12_feed 30 = .ok (.iconst 1, 1) := by decide +kernel
theorem dX12_feed_31 : decode cX12_feed 31 = .ok (.isub, 1) := by decide +kernel
theorem dX12_feed_32 : decode cX12_feed 32 = .ok (.istore 4, 2) := by decide +kernel
theorem dX12_feed_34 : decode cX12_feed 34 = .ok (.iload 4, 2) := by decide +kernel
theorem dX12_feed_36 : decode cX12_feed 36 = .ok (.ifCond .lt 45, 3) := by decide +kernel
theorem dX12_feed_39 : decode cX12_feed 39 = .ok (.aload_n 0, 1) := by decide +kernel
theorem dX12_feed_40 : decode cX12_feed 40 = .ok (.getfield 9, 3) := by decide +kernel
theorem dX12_feed_43 : decode cX12_feed 43 = .ok (.bipush 10, 2) := by decide +kernel
theorem dX12_feed_45 : decode cX12_feed 45 = .ok (.aload_n 0, 1) := by decide +kernel
theorem dX12_feed_46 : decode cX12_feed 46 = .ok (.getfield 9, 3) := by decide +kernel
theorem dX12_feed_49 : decode cX12_feed 49 = .ok (.iconst 5, 1) := by decide +kernel
theorem dX12_feed_50 : decode cX12_feed 50 = .ok (.iaload, 1) := by decide +kernel
theorem dX12_feed_51 : decode cX12_feed 51 = .ok (.iadd, 1) := by decide +kernel
theorem dX12_feed_52 : decode cX12_feed 52 = .ok (.lload_n 1, 1) := by decide +kernel
theorem dX12_feed_53 : decode cX12_feed 53 = .ok (.bipush 8, 2) := by decide +kernel
theorem dX12_feed_55 : decode cX12_feed 55 = .ok (.iload 4, 2) := by decide +kernel
theorem dX12_feed_57 : decode cX12_feed 57 = .ok (.imul, 1) := by decide +kernel
theorem dX12_feed_58 : decode cX12_feed 58 = .ok (.lshr, 1) := by decide +kernel
theorem dX12_feed_59 : decode cX12_feed 59 = .ok (.ldc2_w 75, 3) := by decide +kernel
theorem dX12_feed_62 : decode cX12_feed 62 = .ok (.land, 1) := by decide +kernel
theorem dX12_feed_63 : decode cX12_feed 63 = .ok (.l2i, 1) := by decide +kernel
theorem dX12_feed_64 : decode cX12_feed 64 = .ok (.iastore, 1) := by decide +kernel
theorem dX12_feed_65 : decode cX12_feed 65 = .ok (.aload_n 0, 1) := by decide +kernel
theorem dX12_feed_66 : decode cX12_feed 66 = .ok (.getfield 9, 3) := by decide +kernel
theorem dX12_feed_69 : decode cX12_feed 69 = .ok (.iconst 5, 1) := by decide +kernel
theorem dX12_feed_70 : decode cX12_feed 70 = .ok (.dup2, 1) := by decide +kernel
theorem dX12_feed_71 : decode cX12_feed 71 = .ok (.iaload, 1) := by decide +kernel
theorem dX12_feed_72 : decode cX12_feed 72 = .ok (.iconst 1, 1) := by decide +kernel
theorem dX12_feed_73 : decode cX12_feed 73 = .ok (.iadd, 1) := by decide +kernel
theorem dX12_feed_74 : decode cX12_feed 74 = .ok (.iastore, 1) := by decide +kernel
theorem dX12_feed_75 : decode cX12_feed 75 = .ok (.iinc 4 (-1), 3) := by decide +kernel
theorem dX12_feed_78 : decode cX12_feed 78 = .ok (.goto (-44), 3) := by decide +kernel
theorem dX12_feed_81 : decode cX12_feed 81 = .ok (.aload_n 0, 1) := by decide +kernel
theorem dX12_feed_82 : decode cX12_feed 82 = .ok (.getfield 9, 3) := by decide +kernel
theorem dX12_feed_85 : decode cX12_feed 85 = .ok (.iconst 5, 1) := by decide +kernel
theorem dX12_feed_86 : decode cX12_feed 86 = .ok (.iaload, 1) := by decide +kernel
theorem dX12_feed_87 : decode cX12_feed 87 = .ok (.ireturn, 1) := by decide +kernel
theorem dX12_here_0 : decode cX12_here 0 = .ok (.aload_n 0, 1) := by decide +kernel
theorem dX12_here_1 : decode cX12_here 1 = .ok (.getfield 77, 3) := by decide +kernel
theorem dX12_here_4 : decode cX12_here 4 = .ok (.aload_n 0, 1) := by decide +kernel
theorem dX12_here_5 : decode cX12_here 5 = .ok (.getfield 80, 3) := by decide +kernel
theorem dX12_here_8 : decode cX12_here 8 = .ok (.if_icmp .ge 18, 3) := by decide +kernel
theorem dX12_here_11 : decode cX12_here 11 = .ok (.aload_n 0, 1) := by decide +kernel
theorem dX12_here_12 : decode cX12_here 12 = .ok (.getfield 9, 3) := by decide +kernel
theorem dX12_here_15 : decode cX12_here 15 = .ok (.bipush 10, 2) := by decide +kernel
theorem dX12_here_17 : decode cX12_here 17 = .ok (.aload_n 0, 1) := by decide +kernel
theorem dX12_here_18 : decode cX12_here 18 = .ok (.getfield 77, 3) := by decide +kernel
theorem dX12_here_21 : decode cX12_here 21 = .ok (.iadd, 1) := by decide +kernel
theorem dX12_here_22 : decode cX12_here 22 = .ok (.iaload, 1) := by decide +kernel
theorem dX12_here_23 : decode cX12_here 23 = .ok (.goto 4, 3) := by decide +kernel
theorem dX12_here_26 : decode cX12_here 26 = .ok (.iconst (-1), 1) := by decide +kernel
theorem dX12_here_27 : decode cX12_here 27 = .ok (.ireturn, 1) := by decide +kernel
theorem dX12_must_0 : decode cX12_must 0 = .ok (.aload_n 0, 1) := by decide +kernel
theorem dX12_must_1 : decode cX12_must 1 = .ok (.aload_n 0, 1) := by decide +kernel
theorem dX12_must_2 : decode cX12_must 2 = .ok (.getfield 83, 3) := by decide +kernel
theorem dX12_must_5 : decode cX12_must 5 = .ok (.ifCond .ne 11, 3) := by decide +kernel
theorem dX12_must_8 : decode cX12_must 8 = .ok (.aload_n 0, 1) := by decide +kernel
theorem dX12_must_9 : decode cX12_must 9 = .ok (.invokevirtual 87, 3) := by decide +kernel
theorem dX12_must_12 : decode cX12_must 12 = .ok (.iload_n 1, 1) := by decide +kernel
theorem dX12_must_13 : decode cX12_must 13 = .ok (.if_icmp .eq 7, 3) := by decide +kernel
theorem dX12_must_16 : decode cX12_must 16 = .ok (.iconst 1, 1) := by decide +kernel
theorem dX12_must_17 : decode cX12_must 17 = .ok (.goto 4, 3) := by decide +kernel
theorem dX12_must_20 : decode cX12_must 20 = .ok (.iconst 0, 1) := by decide +kernel
theorem dX12_must_21 : decode cX12_must 21 = .ok (.putfield 83, 3) := by decide +kernel
theorem dX12_must_24 : decode cX12_must 24 = .ok (.aload_n 0, 1) := by decide +kernel
theorem dX12_must_25 : decode cX12_must 25 = .ok (.dup, 1) := by decide +kernel
theorem dX12_must_26 : decode cX12_must 26 = .ok (.getfield 77, 3) := by decide +kernel
theorem dX12_must_29 : decode cX12_must 29 = .ok (.aload_n 0, 1) := by decide +kernel
theorem dX12_must_30 : decode cX12_must 30 = .ok (.getfield 83, 3) := by decide +kernel
theorem dX12_must_33 : decode cX12_must 33 = .ok (.ifCond .eq 7, 3) := by decide +kernel
theorem dX12_must_36 : decode cX12_must 36 = .ok (.iconst 0, 1) := by decide +kernel
theorem dX12_must_37 : decode cX12_must 37 = .ok (.goto 4, 3) := by decide +kernel
theorem dX12_must_40 : decode cX12_must 40 = .ok (.iconst 1, 1) := by decide +kernel
theorem dX12_must_41 : decode cX12_must 41 = .ok (.iadd, 1) := by decide +kernel
theorem dX12_must_42 : decode cX12_must 42 = .ok (.putfield 77, 3) := by decide +kernel
theorem dX12_must_45 : decode cX12_must 45 = .ok (.return_, 1) := by decide +kernel
theorem dX12_spells_0 : decode cX12_spells 0 = .ok (.iconst 0, 1) := by decide +kernel
theorem dX12_spells_1 : decode cX12_spells 1 = .ok (.istore_n 2, 1) := by decide +kernel
theorem dX12_spells_2 : decode cX12_spells 2 = .ok (.iload_n 2, 1) := by decide +kernel
theorem dX12_spells_3 : decode cX12_spells 3 = .ok (.aload_n 1, 1) := by decide +kernel
theorem dX12_spells_4 : decode cX12_spells 4 = .ok (.invokevirtual 90, 3) := by decide +kernel
theorem dX12_spells_7 : decode cX12_spells 7 = .ok (.if_icmp .ge 18, 3) := by decide +kernel
theorem dX12_spells_10 : decode cX12_spells 10 = .ok (.aload_n 0, 1) := by decide +kernel
theorem dX12_spells_11 : decode cX12_spells 11 = .ok (.aload_n 1, 1) := by decide +kernel
theorem dX12_spells_12 : decode cX12_spells 12 = .ok (.iload_n 2, 1) := by decide +kernel
theorem dX12_spells_13 : decode cX12_spells 13 = .ok (.invokevirtual 95, 3) := by decide +kernel
theorem dX12_spells_16 : decode cX12_spells 16 = .ok (.invokevirtual 99, 3) := by decide +kernel
theorem dX12_spells_19 : decode cX12_spells 19 = .ok (.iinc 2 1, 3) := by decide +kernel
theorem dX12_spells_22 : decode cX12_spells 22 = .ok (.goto (-20), 3) := by decide +kernel
theorem dX12_spells_25 : decode cX12_spells 25 = .ok (.return_, 1) := by decide +kernel
theorem dX12_figures_0 : decode cX12_figures 0 = .ok (.aload_n 0, 1) := by decide +kernel
theorem dX12_figures_1 : decode cX12_figures 1 = .ok (.aload_n 0, 1) := by decide +kernel
theorem dX12_figures_2 : decode cX12_figures 2 = .ok (.getfield 83, 3) := by decide +kernel
theorem dX12_figures_5 : decode cX12_figures 5 = .ok (.ifCond .ne 17, 3) := by decide +kernel
theorem dX12_figures_8 : decode cX12_figures 8 = .ok (.aload_n 0, 1) := by decide +kernel
theorem dX12_figures_9 : decode cX12_figures 9 = .ok (.invokevirtual 87, 3) := by decide +kernel
theorem dX12_figures_12 : decode cX12_figures 12 = .ok (.bipush 48, 2) := by decide +kernel
theorem dX12_figures_14 : decode cX12_figures 14 = .ok (.bipush 57, 2) := by decide +kernel
theorem dX12_figures_16 : decode cX12_figures 16 = .ok (.invokestatic 48, 3) := by decide +kernel
theorem dX12_figures_19 : decode cX12_figures 19 = .ok (.ifCond .ne 7, 3) := by decide +kernel
theorem dX12_figures_22 : decode cX12_figures 22 = .ok (.iconst 1, 1) := by decide +kernel
theorem dX12_figures_23 : decode cX12_figures 23 = .ok (.goto 4, 3) := by decide +kernel
theorem dX12_figures_26 : decode cX12_figures 26 = .ok (.iconst 0, 1) := by decide +kernel
theorem dX12_figures_27 : decode cX12_figures 27 = .ok (.putfield 83, 3) := by decide +kernel
theorem dX12_figures_30 : decode cX12_figures 30 = .ok (.iconst 0, 1) := by decide +kernel
theorem dX12_figures_31 : decode cX12_figures 31 = .ok (.istore_n 1, 1) := by decide +kernel
theorem dX12_figures_32 : decode cX12_figures 32 = .ok (.iconst 0, 1) := by decide +kernel
theorem dX12_figures_33 : decode cX12_figures 33 = .ok (.istore_n 2, 1) := by decide +kernel
theorem dX12_figures_34 : decode cX12_figures 34 = .ok (.iload_n 2, 1) := by decide +kernel
theorem dX12_figures_35 : decode cX12_figures 35 = .ok (.iconst 2, 1) := by decide +kernel
theorem dX12_figures_36 : decode cX12_figures 36 = .ok (.if_icmp .ge 61, 3) := by decide +kernel
theorem dX12_figures_39 : decode cX12_figures 39 = .ok (.aload_n 0, 1) := by decide +kernel
theorem dX12_figures_40 : decode cX12_figures 40 = .ok (.getfield 83, 3) := by decide +kernel
theorem dX12_figures_43 : decode cX12_figures 43 = .ok (.ifCond .ne 54, 3) := by decide +kernel
theorem dX12_figures_46 : decode cX12_figures 46 = .ok (.aload_n 0, 1) := by decide +kernel
theorem dX12_figures_47 : decode cX12_figures 47 = .ok (.invokevirtual 87, 3) := by decide +kernel
theorem dX12_figures_50 : decode cX12_figures 50 = .ok (.bipush 48, 2) := by decide +kernel
theorem dX12_figures_52 : decode cX12_figures 52 = .ok (.bipush 57, 2) := by decide +kernel
theorem dX12_figures_54 : decode cX12_figures 54 = .ok (.invokestatic 48, 3) := by decide +kernel
theorem dX12_figures_57 : decode cX12_figures 57 = .ok (.ifCond .eq 40, 3) := by decide +kernel
theorem dX12_figures_60 : decode cX12_figures 60 = .ok (.iload_n 2, 1) := by decide +kernel
theorem dX12_figures_61 : decode cX12_figures 61 = .ok (.ifCond .eq 7, 3) := by decide +kernel
theorem dX12_figures_64 : decode cX12_figures 64 = .ok (.iload_n 1, 1) := by decide +kernel
theorem dX12_figures_65 : decode cX12_figures 65 = .ok (.ifCond .le 32, 3) := by decide +kernel
theorem dX12_figures_68 : decode cX12_figures 68 = .ok (.bipush 10, 2) := by decide +kernel
theorem dX12_figures_70 : decode cX12_figures 70 = .ok (.iload_n 1, 1) := by decide +kernel
theorem dX12_figures_71 : decode cX12_figures 71 = .ok (.imul, 1) := by decide +kernel
theorem dX12_figures_72 : decode cX12_figures 72 = .ok (.aload_n 0, 1) := by decide +kernel
theorem dX12_figures_73 : decode cX12_figures 73 = .ok (.invokevirtual 87, 3) := by decide +kernel
theorem dX12_figures_76 : decode cX12_figures 76 = .ok (.iadd, 1) := by decide +kernel
theorem dX12_figures_77 : decode cX12_figures 77 = .ok (.bipush 48, 2) := by decide +kernel
theorem dX12_figures_79 : decode cX12_figures 79 = .ok (.isub, 1) := by decide +kernel
theorem dX12_figures_80 : decode cX12_figures 80 = .ok (.istore_n 1, 1) := by decide +kernel
theorem dX12_figures_81 : decode cX12_figures 81 = .ok (.aload_n 0, 1) := by decide +kernel
theorem dX12_figures_82 : decode cX12_figures 82 = .ok (.dup, 1) := by decide +kernel
theorem dX12_figures_83 : decode cX12_figures 83 = .ok (.getfield 77, 3) := by decide +kernel
theorem dX12_figures_86 : decode cX12_figures 86 = .ok (.iconst 1, 1) := by decide +kernel
theorem dX12_figures_87 : decode cX12_figures 87 = .ok (.iadd, 1) := by decide +kernel
theorem dX12_figures_88 : decode cX12_figures 88 = .ok (.putfield 77, 3) := by decide +kernel
theorem dX12_figures_91 : decode cX12_figures 91 = .ok (.iinc 2 1, 3) := by decide +kernel
theorem dX12_figures_94 : decode cX12_figures 94 = .ok (.goto (-60), 3) := by decide +kernel
theorem dX12_figures_97 : decode cX12_figures 97 = .ok (.iload_n 1, 1) := by decide +kernel
theorem dX12_figures_98 : decode cX12_figures 98 = .ok (.ireturn, 1) := by decide +kernel
theorem dX12_among_0 : decode cX12_among 0 = .ok (.iconst 0, 1) := by decide +kernel
theorem dX12_among_1 : decode cX12_among 1 = .ok (.istore_n 2, 1) := by decide +kernel
theorem dX12_among_2 : decode cX12_among 2 = .ok (.iload_n 2, 1) := by decide +kernel
theorem dX12_among_3 : decode cX12_among 3 = .ok (.aload_n 1, 1) := by decide +kernel
theorem dX12_among_4 : decode cX12_among 4 = .ok (.invokevirtual 90, 3) := by decide +kernel
theorem dX12_among_7 : decode cX12_among 7 = .ok (.if_icmp .ge 33, 3) := by decide +kernel
theorem dX12_among_10 : decode cX12_among 10 = .ok (.aload_n 0, 1) := by decide +kernel
theorem dX12_among_11 : decode cX12_among 11 = .ok (.invokevirtual 87, 3) := by decide +kernel
theorem dX12_among_14 : decode cX12_among 14 = .ok (.aload_n 1, 1) := by decide +kernel
theorem dX12_among_15 : decode cX12_among 15 = .ok (.iload_n 2, 1) := by decide +kernel
theorem dX12_among_16 : decode cX12_among 16 = .ok (.invokevirtual 95, 3) := by decide +kernel
theorem dX12_among_19 : decode cX12_among 19 = .ok (.if_icmp .ne 15, 3) := by decide +kernel
theorem dX12_among_22 : decode cX12_among 22 = .ok (.aload_n 0, 1) := by decide +kernel
theorem dX12_among_23 : decode cX12_among 23 = .ok (.dup, 1) := by decide +kernel
theorem dX12_among_24 : decode cX12_among 24 = .ok (.getfield 77, 3) := by decide +kernel
theorem dX12_among_27 : decode cX12_among 27 = .ok (.iconst 1, 1) := by decide +kernel
theorem dX12_among_28 : decode cX12_among 28 = .ok (.iadd, 1) := by decide +kernel
theorem dX12_among_29 : decode cX12_among 29 = .ok (.putfield 77, 3) := by decide +kernel
theorem dX12_among_32 : decode cX12_among 32 = .ok (.iload_n 2, 1) := by decide +kernel
theorem dX12_among_33 : decode cX12_among 33 = .ok (.ireturn, 1) := by decide +kernel
theorem dX12_among_34 : decode cX12_among 34 = .ok (.iinc 2 1, 3) := by decide +kernel
theorem dX12_among_37 : decode cX12_among 37 = .ok (.goto (-35), 3) := by decide +kernel
theorem dX12_among_40 : decode cX12_among 40 = .ok (.iconst (-1), 1) := by decide +kernel
theorem dX12_among_41 : decode cX12_among 41 = .ok (.ireturn, 1) := by decide +kernel
theorem dX12_emits_0 : decode cX12_emits 0 = .ok (.aload_n 0, 1) := by decide +kernel
theorem dX12_emits_1 : decode cX12_emits 1 = .ok (.getfield 83, 3) := by decide +kernel
theorem dX12_emits_4 : decode cX12_emits 4 = .ok (.ifCond .ne 52, 3) := by decide +kernel
theorem dX12_emits_7 : decode cX12_emits 7 = .ok (.aload_n 0, 1) := by decide +kernel
theorem dX12_emits_8 : decode cX12_emits 8 = .ok (.getfield 9, 3) := by decide +kernel
theorem dX12_emits_11 : decode cX12_emits 11 = .ok (.sipush 193, 3) := by decide +kernel
theorem dX12_emits_14 : decode cX12_emits 14 = .ok (.sipush 140, 3) := by decide +kernel
theorem dX12_emits_17 : decode cX12_emits 17 = .ok (.aload_n 0, 1) := by decide +kernel
theorem dX12_emits_18 : decode cX12_emits 18 = .ok (.getfield 103, 3) := by decide +kernel
theorem dX12_emits_21 : decode cX12_emits 21 = .ok (.imul, 1) := by decide +kernel
theorem dX12_emits_22 : decode cX12_emits 22 = .ok (.iadd, 1) := by decide +kernel
theorem dX12_emits_23 : decode cX12_emits 23 = .ok (.aload_n 0, 1) := by decide +kernel
theorem dX12_emits_24 : decode cX12_emits 24 = .ok (.getfield 9, 3) := by decide +kernel
theorem dX12_emits_27 : decode cX12_emits 27 = .ok (.sipush 188, 3) := by decide +kernel
theorem dX12_emits_30 : decode cX12_emits 30 = .ok (.aload_n 0, 1) := by decide +kernel
theorem dX12_emits_31 : decode cX12_emits 31 = .ok (.getfield 103, 3) := by decide +kernel
theorem dX12_emits_34 : decode cX12_emits 34 = .ok (.iadd, 1) := by decide +kernel
theorem dX12_emits_35 : decode cX12_emits 35 = .ok (.iaload, 1) := by decide +kernel
theorem dX12_emits_36 : decode cX12_emits 36 = .ok (.iadd, 1) := by decide +kernel
theorem dX12_emits_37 : decode cX12_emits 37 = .ok (.iload_n 1, 1) := by decide +kernel
theorem dX12_emits_38 : decode cX12_emits 38 = .ok (.iastore, 1) := by decide +kernel
theorem dX12_emits_39 : decode cX12_emits 39 = .ok (.aload_n 0, 1) := by decide +kernel
theorem dX12_emits_40 : decode cX12_emits 40 = .ok (.getfield 9, 3) := by decide +kernel
theorem dX12_emits_43 : decode cX12_emits 43 = .ok (.sipush 188, 3) := by decide +kernel
theorem dX12_emits_46 : decode cX12_emits 46 = .ok (.aload_n 0, 1) := by decide +kernel
theorem dX12_emits_47 : decode cX12_emits 47 = .ok (.getfield 103, 3) := by decide +kernel
theorem dX12_emits_50 : decode cX12_emits 50 = .ok (.iadd, 1) := by decide +kernel
theorem dX12_emits_51 : decode cX12_emits 51 = .ok (.dup2, 1) := by decide +kernel
theorem dX12_emits_52 : decode cX12_emits 52 = .ok (.iaload, 1) := by decide +kernel
theorem dX12_emits_53 : decode cX12_emits 53 = .ok (.iconst 1, 1) := by decide +kernel
theorem dX12_emits_54 : decode cX12_emits 54 = .ok (.iadd, 1) := by decide +kernel
theorem dX12_emits_55 : decode cX12_emits 55 = .ok (.iastore, 1) := by decide +kernel
theorem dX12_emits_56 : decode cX12_emits 56 = .ok (.return_, 1) := by decide +kernel
theorem dX12_factor_0 : decode cX12_factor 0 = .ok (.aload_n 0, 1) := by decide +kernel
theorem dX12_factor_1 : decode cX12_factor 1 = .ok (.getfield 83, 3) := by decide +kernel
theorem dX12_factor_4 : decode cX12_factor 4 = .ok (.ifCond .eq 4, 3) := by decide +kernel
theorem dX12_factor_7 : decode cX12_factor 7 = .ok (.return_, 1) := by decide +kernel
theorem dX12_factor_8 : decode cX12_factor 8 = .ok (.aload_n 0, 1) := by decide +kernel
theorem dX12_factor_9 : decode cX12_factor 9 = .ok (.invokevirtual 87, 3) := by decide +kernel
theorem dX12_factor_12 : decode cX12_factor 12 = .ok (.istore_n 1, 1) := by decide +kernel
theorem dX12_factor_13 : decode cX12_factor 13 = .ok (.iload_n 1, 1) := by decide +kernel
theorem dX12_factor_14 : decode cX12_factor 14 = .ok (.bipush 33, 2) := by decide +kernel
theorem dX12_factor_16 : decode cX12_factor 16 = .ok (.if_icmp .eq 9, 3) := by decide +kernel
theorem dX12_factor_19 : decode cX12_factor 19 = .ok (.iload_n 1, 1) := by decide +kernel
theorem dX12_factor_20 : decode cX12_factor 20 = .ok (.bipush 40, 2) := by decide +kernel
theorem dX12_factor_22 : decode cX12_factor 22 = .ok (.if_icmp .ne 90, 3) := by decide +kernel
theorem dX12_factor_25 : decode cX12_factor 25 = .ok (.aload_n 0, 1) := by decide +kernel
theorem dX12_factor_26 : decode cX12_factor 26 = .ok (.aload_n 0, 1) := by decide +kernel
theorem dX12_factor_27 : decode cX12_factor 27 = .ok (.getfield 106, 3) := by decide +kernel
theorem dX12_factor_30 : decode cX12_factor 30 = .ok (.iconst 5, 1) := by decide +kernel
theorem dX12_factor_31 : decode cX12_factor 31 = .ok (.if_icmp .ne 7, 3) := by decide +kernel
theorem dX12_factor_34 : decode cX12_factor 34 = .ok (.iconst 1, 1) := by decide +kernel
theorem dX12_factor_35 : decode cX12_factor 35 = .ok (.goto 4, 3) := by decide +kernel
theorem dX12_factor_38 : decode cX12_factor 38 = .ok (.iconst 0, 1) := by decide +kernel
theorem dX12_factor_39 : decode cX12_factor 39 = .ok (.putfield 83, 3) := by decide +kernel
theorem dX12_factor_42 : decode cX12_factor 42 = .ok (.aload_n 0, 1) := by decide +kernel
theorem dX12_factor_43 : decode cX12_factor 43 = .ok (.dup, 1) := by decide +kernel
theorem dX12_factor_44 : decode cX12_factor 44 = .ok (.getfield 106, 3) := by decide +kernel
theorem dX12_factor_47 : decode cX12_factor 47 = .ok (.iconst 1, 1) := by decide +kernel
theorem dX12_factor_48 : decode cX12_factor 48 = .ok (.iadd, 1) := by decide +kernel
theorem dX12_factor_49 : decode cX12_factor 49 = .ok (.putfield 106, 3) := by decide +kernel
theorem dX12_factor_52 : decode cX12_factor 52 = .ok (.aload_n 0, 1) := by decide +kernel
theorem dX12_factor_53 : decode cX12_factor 53 = .ok (.dup, 1) := by decide +kernel
theorem dX12_factor_54 : decode cX12_factor 54 = .ok (.getfield 77, 3) := by decide +kernel
theorem dX12_factor_57 : decode cX12_factor 57 = .ok (.aload_n 0, 1) := by decide +kernel
theorem dX12_factor_58 : decode cX12_factor 58 = .ok (.getfield 83, 3) := by decide +kernel
theorem dX12_factor_61 : decode cX12_factor 61 = .ok (.ifCond .eq 7, 3) := by decide +kernel
theorem dX12_factor_64 : decode cX12_factor 64 = .ok (.iconst 0, 1) := by decide +kernel
theorem dX12_factor_65 : decode cX12_factor 65 = .ok (.goto 4, 3) := by decide +kernel
theorem dX12_factor_68 : decode cX12_factor 68 = .ok (.iconst 1, 1) := by decide +kernel
theorem dX12_factor_69 : decode cX12_factor 69 = .ok (.iadd, 1) := by decide +kernel
theorem dX12_factor_70 : decode cX12_factor 70 = .ok (.putfield 77, 3) := by decide +kernel
theorem dX12_factor_73 : decode cX12_factor 73 = .ok (.iload_n 1, 1) := by decide +kernel
theorem dX12_factor_74 : decode cX12_factor 74 = .ok (.bipush 33, 2) := by decide +kernel
theorem dX12_factor_76 : decode cX12_factor 76 = .ok (.if_icmp .ne 15, 3) := by decide +kernel
theorem dX12_factor_79 : decode cX12_factor 79 = .ok (.aload_n 0, 1) := by decide +kernel
theorem dX12_factor_80 : decode cX12_factor 80 = .ok (.invokevirtual 109, 3) := by decide +kernel
theorem dX12_factor_83 : decode cX12_factor 83 = .ok (.aload_n 0, 1) := by decide +kernel
theorem dX12_factor_84 : decode cX12_factor 84 = .ok (.iconst (-1), 1) := by decide +kernel
theorem dX12_factor_85 : decode cX12_factor 85 = .ok (.invokevirtual 112, 3) := by decide +kernel
theorem dX12_factor_88 : decode cX12_factor 88 = .ok (.goto 13, 3) := by decide +kernel
theorem dX12_factor_91 : decode cX12_factor 91 = .ok (.aload_n 0, 1) := by decide +kernel
theorem dX12_factor_92 : decode cX12_factor 92 = .ok (.invokevirtual 115, 3) := by decide +kernel
theorem dX12_factor_95 : decode cX12_factor 95 = .ok (.aload_n 0, 1) := by decide +kernel
theorem dX12_factor_96 : decode cX12_factor 96 = .ok (.bipush 41, 2) := by decide +kernel
theorem dX12_factor_98 : decode cX12_factor 98 = .ok (.invokevirtual 99, 3) := by decide +kernel
theorem dX12_factor_101 : decode cX12_factor 101 = .ok (.aload_n 0, 1) := by decide +kernel
theorem dX12_factor_102 : decode cX12_factor 102 = .ok (.dup, 1) := by decide +kernel
theorem dX12_factor_103 : decode cX12_factor 103 = .ok (.getfield 106, 3) := by decide +kernel
theorem dX12_factor_106 : decode cX12_factor 106 = .ok (.iconst 1, 1) := by decide +kernel
theorem dX12_factor_107 : decode cX12_factor 107 = .ok (.isub, 1) := by decide +kernel
theorem dX12_factor_108 : decode cX12_factor 108 = .ok (.putfield 106, 3) := by decide +kernel
theorem dX12_factor_111 : decode cX12_factor 111 = .ok (.return_, 1) := by decide +kernel
theorem dX12_factor_112 : decode cX12_factor 112 = .ok (.aload_n 0, 1) := by decide +kernel
theorem dX12_factor_113 : decode cX12_factor 113 = .ok (.ldc 118, 2) := by decide +kernel
theorem dX12_factor_115 : decode cX12_factor 115 = .ok (.invokevirtual 120, 3) := by decide +kernel
theorem dX12_factor_118 : decode cX12_factor 118 = .ok (.istore_n 2, 1) := by decide +kernel
theorem dX12_factor_119 : decode cX12_factor 119 = .ok (.aload_n 0, 1) := by decide +kernel
theorem dX12_factor_120 : decode cX12_factor 120 = .ok (.iload_n 2, 1) := by decide +kernel
theorem dX12_factor_121 : decode cX12_factor 121 = .ok (.iconst (-1), 1) := by decide +kernel
theorem dX12_factor_122 : decode cX12_factor 122 = .ok (.if_icmp .ne 7, 3) := by decide +kernel
theorem dX12_factor_125 : decode cX12_factor 125 = .ok (.iconst 1, 1) := by decide +kernel
theorem dX12_factor_126 : decode cX12_factor 126 = .ok (.goto 4, 3) := by decide +kernel
theorem dX12_factor_129 : decode cX12_factor 129 = .ok (.iconst 0, 1) := by decide +kernel
theorem dX12_factor_130 : decode cX12_factor 130 = .ok (.putfield 83, 3) := by decide +kernel
theorem dX12_factor_133 : decode cX12_factor 133 = .ok (.aload_n 0, 1) := by decide +kernel
theorem dX12_factor_134 : decode cX12_factor 134 = .ok (.getfield 83, 3) := by decide +kernel
theorem dX12_factor_137 : decode cX12_factor 137 = .ok (.ifCond .eq 7, 3) := by decide +kernel
theorem dX12_factor_140 : decode cX12_factor 140 = .ok (.iconst 0, 1) := by decide +kernel
theorem dX12_factor_141 : decode cX12_factor 141 = .ok (.goto 9, 3) := by decide +kernel
theorem dX12_factor_144 : decode cX12_factor 144 = .ok (.aload_n 0, 1) := by decide +kernel
theorem dX12_factor_145 : decode cX12_factor 145 = .ok (.ldc 124, 2) := by decide +kernel
theorem dX12_factor_147 : decode cX12_factor 147 = .ok (.invokevirtual 120, 3) := by decide +kernel
theorem dX12_factor_150 : decode cX12_factor 150 = .ok (.istore_n 3, 1) := by decide +kernel
theorem dX12_factor_151 : decode cX12_factor 151 = .ok (.aload_n 0, 1) := by decide +kernel
theorem dX12_factor_152 : decode cX12_factor 152 = .ok (.aload_n 0, 1) := by decide +kernel
theorem dX12_factor_153 : decode cX12_factor 153 = .ok (.getfield 83, 3) := by decide +kernel
theorem dX12_factor_156 : decode cX12_factor 156 = .ok (.ifCond .ne 8, 3) := by decide +kernel
theorem dX12_factor_159 : decode cX12_factor 159 = .ok (.iload_n 3, 1) := by decide +kernel
theorem dX12_factor_160 : decode cX12_factor 160 = .ok (.iconst (-1), 1) := by decide +kernel
theorem dX12_factor_161 : decode cX12_factor 161 = .ok (.if_icmp .ne 7, 3) := by decide +kernel
theorem dX12_factor_164 : decode cX12_factor 164 = .ok (.iconst 1, 1) := by decide +kernel
theorem dX12_factor_165 : decode cX12_factor 165 = .ok (.goto 4, 3) := by decide +kernel
theorem dX12_factor_168 : decode cX12_factor 168 = .ok (.iconst 0, 1) := by decide +kernel
theorem dX12_factor_169 : decode cX12_factor 169 = .ok (.putfield 83, 3) := by decide +kernel
theorem dX12_factor_172 : decode cX12_factor 172 = .ok (.aload_n 0, 1) := by decide +kernel
theorem dX12_factor_173 : decode cX12_factor 173 = .ok (.invokevirtual 126, 3) := by decide +kernel
theorem dX12_factor_176 : decode cX12_factor 176 = .ok (.istore 4, 2) := by decide +kernel
theorem dX12_factor_178 : decode cX12_factor 178 = .ok (.aload_n 0, 1) := by decide +kernel
theorem dX12_factor_179 : decode cX12_factor 179 = .ok (.iload_n 2, 1) := by decide +kernel
theorem dX12_factor_180 : decode cX12_factor 180 = .ok (.bipush 8, 2) := by decide +kernel
theorem dX12_factor_182 : decode cX12_factor 182 = .ok (.iload_n 3, 1) := by decide +kernel
theorem dX12_factor_183 : decode cX12_factor 183 = .ok (.imul, 1) := by decide +kernel
theorem dX12_factor_184 : decode cX12_factor 184 = .ok (.iadd, 1) := by decide +kernel
theorem dX12_factor_185 : decode cX12_factor 185 = .ok (.bipush 32, 2) := by decide +kernel
theorem dX12_factor_187 : decode cX12_factor 187 = .ok (.iload 4, 2) := by decide +kernel
theorem dX12_factor_189 : decode cX12_factor 189 = .ok (.imul, 1) := by decide +kernel
theorem dX12_factor_190 : decode cX12_factor 190 = .ok (.iadd, 1) := by decide +kernel
theorem dX12_factor_191 : decode cX12_factor 191 = .ok (.invokevirtual 112, 3) := by decide +kernel
theorem dX12_factor_194 : decode cX12_factor 194 = .ok (.return_, 1) := by decide +kernel
theorem dX12_every_0 : decode cX12_every 0 = .ok (.aload_n 0, 1) := by decide +kernel
theorem dX12_every_1 : decode cX12_every 1 = .ok (.invokevirtual 109, 3) := by decide +kernel
theorem dX12_every_4 : decode cX12_every 4 = .ok (.aload_n 0, 1) := by decide +kernel
theorem dX12_every_5 : decode cX12_every 5 = .ok (.getfield 83, 3) := by decide +kernel
theorem dX12_every_8 : decode cX12_every 8 = .ok (.ifCond .ne 35, 3) := by decide +kernel
theorem dX12_every_11 : decode cX12_every 11 = .ok (.aload_n 0, 1) := by decide +kernel
theorem dX12_every_12 : decode cX12_every 12 = .ok (.invokevirtual 87, 3) := by decide +kernel
theorem dX12_every_15 : decode cX12_every 15 = .ok (.bipush 38, 2) := by decide +kernel
theorem dX12_every_17 : decode cX12_every 17 = .ok (.if_icmp .ne 26, 3) := by decide +kernel
theorem dX12_every_20 : decode cX12_every 20 = .ok (.aload_n 0, 1) := by decide +kernel
theorem dX12_every_21 : decode cX12_every 21 = .ok (.dup, 1) := by decide +kernel
theorem dX12_every_22 : decode cX12_every 22 = .ok (.getfield 77, 3) := by decide +kernel
theorem dX12_every_25 : decode cX12_every 25 = .ok (.iconst 1, 1) := by decide +kernel
theorem dX12_every_26 : decode cX12_every 26 = .ok (.iadd, 1) := by decide +kernel
theorem dX12_every_27 : decode cX12_every 27 = .ok (.putfield 77, 3) := by decide +kernel
theorem dX12_every_30 : decode cX12_every 30 = .ok (.aload_n 0, 1) := by decide +kernel
theorem dX12_every_31 : decode cX12_every 31 = .ok (.invokevirtual 109, 3) := by decide +kernel
theorem dX12_every_34 : decode cX12_every 34 = .ok (.aload_n 0, 1) := by decide +kernel
theorem dX12_every_35 : decode cX12_every 35 = .ok (.bipush (-2), 2) := by decide +kernel
theorem dX12_every_37 : decode cX12_every 37 = .ok (.invokevirtual 112, 3) := by decide +kernel
theorem dX12_every_40 : decode cX12_every 40 = .ok (.goto (-36), 3) := by decide +kernel
theorem dX12_every_43 : decode cX12_every 43 = .ok (.return_, 1) := by decide +kernel
theorem dX12_some_0 : decode cX12_some 0 = .ok (.aload_n 0, 1) := by decide +kernel
theorem dX12_some_1 : decode cX12_some 1 = .ok (.invokevirtual 129, 3) := by decide +kernel
theorem dX12_some_4 : decode cX12_some 4 = .ok (.aload_n 0, 1) := by decide +kernel
theorem dX12_some_5 : decode cX12_some 5 = .ok (.getfield 83, 3) := by decide +kernel
theorem dX12_some_8 : decode cX12_some 8 = .ok (.ifCond .ne 35, 3) := by decide +kernel
theorem dX12_some_11 : decode cX12_some 11 = .ok (.aload_n 0, 1) := by decide +kernel
theorem dX12_some_12 : decode cX12_some 12 = .ok (.invokevirtual 87, 3) := by decide +kernel
theorem dX12_some_15 : decode cX12_some 15 = .ok (.bipush 124, 2) := by decide +kernel
theorem dX12_some_17 : decode cX12_some 17 = .ok (.if_icmp .ne 26, 3) := by decide +kernel
theorem dX12_some_20 : decode cX12_some 20 = .ok (.aload_n 0, 1) := by decide +kernel
theorem dX12_some_21 : decode cX12_some 21 = .ok (.dup, 1) := by decide +kernel
theorem dX12_some_22 : decode cX12_some 22 = .ok (.getfield 77, 3) := by decide +kernel
theorem dX12_some_25 : decode cX12_some 25 = .ok (.iconst 1, 1) := by decide +kernel
theorem dX12_some_26 : decode cX12_some 26 = .ok (.iadd, 1) := by decide +kernel
theorem dX12_some_27 : decode cX12_some 27 = .ok (.putfield 77, 3) := by decide +kernel
theorem dX12_some_30 : decode cX12_some 30 = .ok (.aload_n 0, 1) := by decide +kernel
theorem dX12_some_31 : decode cX12_some 31 = .ok (.invokevirtual 129, 3) := by decide +kernel
theorem dX12_some_34 : decode cX12_some 34 = .ok (.aload_n 0, 1) := by decide +kernel
theorem dX12_some_35 : decode cX12_some 35 = .ok (.bipush (-3), 2) := by decide +kernel
theorem dX12_some_37 : decode cX12_some 37 = .ok (.invokevirtual 112, 3) := by decide +kernel
theorem dX12_some_40 : decode cX12_some 40 = .ok (.goto (-36), 3) := by decide +kernel
theorem dX12_some_43 : decode cX12_some 43 = .ok (.return_, 1) := by decide +kernel
theorem dX12_clauseHere_0 : decode cX12_clauseHere 0 = .ok (.aload_n 0, 1) := by decide +kernel
theorem dX12_clauseHere_1 : decode cX12_clauseHere 1 = .ok (.invokevirtual 87, 3) := by decide +kernel
theorem dX12_clauseHere_4 : decode cX12_clauseHere 4 = .ok (.lookupswitch 218 #[(98, 199), (115, 180), (117, 44), (119, 95)], 44) := by decide +kernel
theorem dX12_clauseHere_48 : decode cX12_clauseHere 48 = .ok (.aload_n 0, 1) := by decide +kernel
theorem dX12_clauseHere_49 : decode cX12_clauseHere 49 = .ok (.ldc 132, 2) := by decide +kernel
theorem dX12_clauseHere_51 : decode cX12_clauseHere 51 = .ok (.invokevirtual 134, 3) := by decide +kernel
theorem dX12_clauseHere_54 : decode cX12_clauseHere 54 = .ok (.aload_n 0, 1) := by decide +kernel
theorem dX12_clauseHere_55 : decode cX12_clauseHere 55 = .ok (.invokevirtual 126, 3) := by decide +kernel
theorem dX12_clauseHere_58 : decode cX12_clauseHere 58 = .ok (.istore_n 1, 1) := by decide +kernel
theorem dX12_clauseHere_59 : decode cX12_clauseHere 59 = .ok (.aload_n 0, 1) := by decide +kernel
theorem dX12_clauseHere_60 : decode cX12_clauseHere 60 = .ok (.getfield 9, 3) := by decide +kernel
theorem dX12_clauseHere_63 : decode cX12_clauseHere 63 = .ok (.sipush 178, 3) := by decide +kernel
theorem dX12_clauseHere_66 : decode cX12_clauseHere 66 = .ok (.aload_n 0, 1) := by decide +kernel
theorem dX12_clauseHere_67 : decode cX12_clauseHere 67 = .ok (.getfield 103, 3) := by decide +kernel
theorem dX12_clauseHere_70 : decode cX12_clauseHere 70 = .ok (.iadd, 1) := by decide +kernel
theorem dX12_clauseHere_71 : decode cX12_clauseHere 71 = .ok (.aload_n 0, 1) := by decide +kernel
theorem dX12_clauseHere_72 : decode cX12_clauseHere 72 = .ok (.getfield 83, 3) := by decide +kernel
theorem dX12_clauseHere_75 : decode cX12_clauseHere 75 = .ok (.ifCond .eq 19, 3) := by decide +kernel
theorem dX12_clauseHere_78 : decode cX12_clauseHere 78 = .ok (.aload_n 0, 1) := by decide +kernel
theorem dX12_clauseHere_79 : decode cX12_clauseHere 79 = .ok (.getfield 9, 3) := by decide +kernel
theorem dX12_clauseHere_82 : decode cX12_clauseHere 82 = .ok (.sipush 178, 3) := by decide +kernel
theorem dX12_clauseHere_85 : decode cX12_clauseHere 85 = .ok (.aload_n 0, 1) := by decide +kernel
theorem dX12_clauseHere_86 : decode cX12_clauseHere 86 = .ok (.getfield 103, 3) := by decide +kernel
theorem dX12_clauseHere_89 : decode cX12_clauseHere 89 = .ok (.iadd, 1) := by decide +kernel
theorem dX12_clauseHere_90 : decode cX12_clauseHere 90 = .ok (.iaload, 1) := by decide +kernel
theorem dX12_clauseHere_91 : decode cX12_clauseHere 91 = .ok (.goto 4, 3) := by decide +kernel
theorem dX12_clauseHere_94 : decode cX12_clauseHere 94 = .ok (.iload_n 1, 1) := by decide +kernel
theorem dX12_clauseHere_95 : decode cX12_clauseHere 95 = .ok (.iastore, 1) := by decide +kernel
theorem dX12_clauseHere_96 : decode cX12_clauseHere 96 = .ok (.goto 131, 3) := by decide +kernel
theorem dX12_clauseHere_99 : decode cX12_clauseHere 99 = .ok (.aload_n 0, 1) := by decide +kernel
theorem dX12_clauseHere_100 : decode cX12_clauseHere 100 = .ok (.ldc 138, 2) := by decide +kernel
theorem dX12_clauseHere_102 : decode cX12_clauseHere 102 = .ok (.invokevirtual 134, 3) := by decide +kernel
theorem dX12_clauseHere_105 : decode cX12_clauseHere 105 = .ok (.aload_n 0, 1) := by decide +kernel
theorem dX12_clauseHere_106 : decode cX12_clauseHere 106 = .ok (.getfield 83, 3) := by decide +kernel
theorem dX12_clauseHere_109 : decode cX12_clauseHere 109 = .ok (.ifCond .eq 7, 3) := by decide +kernel
theorem dX12_clauseHere_112 : decode cX12_clauseHere 112 = .ok (.iconst (-1), 1) := by decide +kernel
theorem dX12_clauseHere_113 : decode cX12_clauseHere 113 = .ok (.goto 9, 3) := by decide +kernel
theorem dX12_clauseHere_116 : decode cX12_clauseHere 116 = .ok (.aload_n 0, 1) := by decide +kernel
theorem dX12_clauseHere_117 : decode cX12_clauseHere 117 = .ok (.ldc 140, 2) := by decide +kernel
theorem dX12_clauseHere_119 : decode cX12_clauseHere 119 = .ok (.invokevirtual 120, 3) := by decide +kernel
theorem dX12_clauseHere_122 : decode cX12_clauseHere 122 = .ok (.istore_n 1, 1) := by decide +kernel
theorem dX12_clauseHere_123 : decode cX12_clauseHere 123 = .ok (.aload_n 0, 1) := by decide +kernel
theorem dX12_clauseHere_124 : decode cX12_clauseHere 124 = .ok (.aload_n 0, 1) := by decide +kernel
theorem dX12_clauseHere_125 : decode cX12_clauseHere 125 = .ok (.getfield 83, 3) := by decide +kernel
theorem dX12_clauseHere_128 : decode cX12_clauseHere 128 = .ok (.ifCond .ne 8, 3) := by decide +kernel
theorem dX12_clauseHere_131 : decode cX12_clauseHere 131 = .ok (.iload_n 1, 1) := by decide +kernel
theorem dX12_clauseHere_132 : decode cX12_clauseHere 132 = .ok (.iconst (-1), 1) := by decide +kernel
theorem dX12_clauseHere_133 : decode cX12_clauseHere 133 = .ok (.if_icmp .ne 7, 3) := by decide +kernel
theorem dX12_clauseHere_136 : decode cX12_clauseHere 136 = .ok (.iconst 1, 1) := by decide +kernel
theorem dX12_clauseHere_137 : decode cX12_clauseHere 137 = .ok (.goto 4, 3) := by decide +kernel
theorem dX12_clauseHere_140 : decode cX12_clauseHere 140 = .ok (.iconst 0, 1) := by decide +kernel
theorem dX12_clauseHere_141 : decode cX12_clauseHere 141 = .ok (.putfield 83, 3) := by decide +kernel
theorem dX12_clauseHere_144 : decode cX12_clauseHere 144 = .ok (.aload_n 0, 1) := by decide +kernel
theorem dX12_clauseHere_145 : decode cX12_clauseHere 145 = .ok (.getfield 9, 3) := by decide +kernel
theorem dX12_clauseHere_148 : decode cX12_clauseHere 148 = .ok (.sipush 183, 3) := by decide +kernel
theorem dX12_clauseHere_151 : decode cX12_clauseHere 151 = .ok (.aload_n 0, 1) := by decide +kernel
theorem dX12_clauseHere_152 : decode cX12_clauseHere 152 = .ok (.getfield 103, 3) := by decide +kernel
theorem dX12_clauseHere_155 : decode cX12_clauseHere 155 = .ok (.iadd, 1) := by decide +kernel
theorem dX12_clauseHere_156 : decode cX12_clauseHere 156 = .ok (.aload_n 0, 1) := by decide +kernel
theorem dX12_clauseHere_157 : decode cX12_clauseHere 157 = .ok (.getfield 83, 3) := by decide +kernel
theorem dX12_clauseHere_160 : decode cX12_clauseHere 160 = .ok (.ifCond .eq 19, 3) := by decide +kernel
theorem dX12_clauseHere_163 : decode cX12_clauseHere 163 = .ok (.aload_n 0, 1) := by decide +kernel
theorem dX12_clauseHere_164 : decode cX12_clauseHere 164 = .ok (.getfield 9, 3) := by decide +kernel
theorem dX12_clauseHere_167 : decode cX12_clauseHere 167 = .ok (.sipush 183, 3) := by decide +kernel
theorem dX12_clauseHere_170 : decode cX12_clauseHere 170 = .ok (.aload_n 0, 1) := by decide +kernel
theorem dX12_clauseHere_171 : decode cX12_clauseHere 171 = .ok (.getfield 103, 3) := by decide +kernel
theorem dX12_clauseHere_174 : decode cX12_clauseHere 174 = .ok (.iadd, 1) := by decide +kernel
theorem dX12_clauseHere_175 : decode cX12_clauseHere 175 = .ok (.iaload, 1) := by decide +kernel
theorem dX12_clauseHere_176 : decode cX12_clauseHere 176 = .ok (.goto 4, 3) := by decide +kernel
theorem dX12_clauseHere_179 : decode cX12_clauseHere 179 = .ok (.iload_n 1, 1) := by decide +kernel
theorem dX12_clauseHere_180 : decode cX12_clauseHere 180 = .ok (.iastore, 1) := by decide +kernel
theorem dX12_clauseHere_181 : decode cX12_clauseHere 181 = .ok (.goto 46, 3) := by decide +kernel
theorem dX12_clauseHere_184 : decode cX12_clauseHere 184 = .ok (.aload_n 0, 1) := by decide +kernel
theorem dX12_clauseHere_185 : decode cX12_clauseHere 185 = .ok (.ldc 142, 2) := by decide +kernel
theorem dX12_clauseHere_187 : decode cX12_clauseHere 187 = .ok (.invokevirtual 134, 3) := by decide +kernel
theorem dX12_clauseHere_190 : decode cX12_clauseHere 190 = .ok (.aload_n 0, 1) := by decide +kernel
theorem dX12_clauseHere_191 : decode cX12_clauseHere 191 = .ok (.invokevirtual 115, 3) := by decide +kernel
theorem dX12_clauseHere_194 : decode cX12_clauseHere 194 = .ok (.aload_n 0, 1) := by decide +kernel
theorem dX12_clauseHere_195 : decode cX12_clauseHere 195 = .ok (.bipush (-4), 2) := by decide +kernel
theorem dX12_clauseHere_197 : decode cX12_clauseHere 197 = .ok (.invokevirtual 112, 3) := by decide +kernel
theorem dX12_clauseHere_200 : decode cX12_clauseHere 200 = .ok (.goto 27, 3) := by decide +kernel
theorem dX12_clauseHere_203 : decode cX12_clauseHere 203 = .ok (.aload_n 0, 1) := by decide +kernel
theorem dX12_clauseHere_204 : decode cX12_clauseHere 204 = .ok (.ldc 144, 2) := by decide +kernel
theorem dX12_clauseHere_206 : decode cX12_clauseHere 206 = .ok (.invokevirtual 134, 3) := by decide +kernel
theorem dX12_clauseHere_209 : decode cX12_clauseHere 209 = .ok (.aload_n 0, 1) := by decide +kernel
theorem dX12_clauseHere_210 : decode cX12_clauseHere 210 = .ok (.invokevirtual 115, 3) := by decide +kernel
theorem dX12_clauseHere_213 : decode cX12_clauseHere 213 = .ok (.aload_n 0, 1) := by decide +kernel
theorem dX12_clauseHere_214 : decode cX12_clauseHere 214 = .ok (.bipush (-5), 2) := by decide +kernel
theorem dX12_clauseHere_216 : decode cX12_clauseHere 216 = .ok (.invokevirtual 112, 3) := by decide +kernel
theorem dX12_clauseHere_219 : decode cX12_clauseHere 219 = .ok (.goto 8, 3) := by decide +kernel
theorem dX12_clauseHere_222 : decode cX12_clauseHere 222 = .ok (.aload_n 0, 1) := by decide +kernel
theorem dX12_clauseHere_223 : decode cX12_clauseHere 223 = .ok (.iconst 1, 1) := by decide +kernel
theorem dX12_clauseHere_224 : decode cX12_clauseHere 224 = .ok (.putfield 83, 3) := by decide +kernel
theorem dX12_clauseHere_227 : decode cX12_clauseHere 227 = .ok (.return_, 1) := by decide +kernel
theorem dX12_club_0 : decode cX12_club 0 = .ok (.aload_n 0, 1) := by decide +kernel
theorem dX12_club_1 : decode cX12_club 1 = .ok (.getfield 9, 3) := by decide +kernel
theorem dX12_club_4 : decode cX12_club 4 = .ok (.iconst 1, 1) := by decide +kernel
theorem dX12_club_5 : decode cX12_club 5 = .ok (.iaload, 1) := by decide +kernel
theorem dX12_club_6 : decode cX12_club 6 = .ok (.iconst 5, 1) := by decide +kernel
theorem dX12_club_7 : decode cX12_club 7 = .ok (.if_icmp .ne 6, 3) := by decide +kernel
theorem dX12_club_10 : decode cX12_club 10 = .ok (.bipush (-4), 2) := by decide +kernel
theorem dX12_club_12 : decode cX12_club 12 = .ok (.ireturn, 1) := by decide +kernel
theorem dX12_club_13 : decode cX12_club 13 = .ok (.aload_n 0, 1) := by decide +kernel
theorem dX12_club_14 : decode cX12_club 14 = .ok (.aload_n 0, 1) := by decide +kernel
theorem dX12_club_15 : decode cX12_club 15 = .ok (.getfield 9, 3) := by decide +kernel
theorem dX12_club_18 : decode cX12_club 18 = .ok (.iconst 1, 1) := by decide +kernel
theorem dX12_club_19 : decode cX12_club 19 = .ok (.iaload, 1) := by decide +kernel
theorem dX12_club_20 : decode cX12_club 20 = .ok (.putfield 103, 3) := by decide +kernel
theorem dX12_club_23 : decode cX12_club 23 = .ok (.aload_n 0, 1) := by decide +kernel
theorem dX12_club_24 : decode cX12_club 24 = .ok (.aload_n 0, 1) := by decide +kernel
theorem dX12_club_25 : decode cX12_club 25 = .ok (.getfield 9, 3) := by decide +kernel
theorem dX12_club_28 : decode cX12_club 28 = .ok (.iconst 5, 1) := by decide +kernel
theorem dX12_club_29 : decode cX12_club 29 = .ok (.iaload, 1) := by decide +kernel
theorem dX12_club_30 : decode cX12_club 30 = .ok (.putfield 80, 3) := by decide +kernel
theorem dX12_club_33 : decode cX12_club 33 = .ok (.aload_n 0, 1) := by decide +kernel
theorem dX12_club_34 : decode cX12_club 34 = .ok (.getfield 9, 3) := by decide +kernel
theorem dX12_club_37 : decode cX12_club 37 = .ok (.iconst 5, 1) := by decide +kernel
theorem dX12_club_38 : decode cX12_club 38 = .ok (.iconst 0, 1) := by decide +kernel
theorem dX12_club_39 : decode cX12_club 39 = .ok (.iastore, 1) := by decide +kernel
theorem dX12_club_40 : decode cX12_club 40 = .ok (.aload_n 0, 1) := by decide +kernel
theorem dX12_club_41 : decode cX12_club 41 = .ok (.getfield 9, 3) := by decide +kernel
theorem dX12_club_44 : decode cX12_club 44 = .ok (.sipush 178, 3) := by decide +kernel
theorem dX12_club_47 : decode cX12_club 47 = .ok (.aload_n 0, 1) := by decide +kernel
theorem dX12_club_48 : decode cX12_club 48 = .ok (.getfield 103, 3) := by decide +kernel
theorem dX12_club_51 : decode cX12_club 51 = .ok (.iadd, 1) := by decide +kernel
theorem dX12_club_52 : decode cX12_club 52 = .ok (.iconst 0, 1) := by decide +kernel
theorem dX12_club_53 : decode cX12_club 53 = .ok (.iastore, 1) := by decide +kernel
theorem dX12_club_54 : decode cX12_club 54 = .ok (.aload_n 0, 1) := by decide +kernel
theorem dX12_club_55 : decode cX12_club 55 = .ok (.getfield 9, 3) := by decide +kernel
theorem dX12_club_58 : decode cX12_club 58 = .ok (.sipush 183, 3) := by decide +kernel
theorem dX12_club_61 : decode cX12_club 61 = .ok (.aload_n 0, 1) := by decide +kernel
theorem dX12_club_62 : decode cX12_club 62 = .ok (.getfield 103, 3) := by decide +kernel
theorem dX12_club_65 : decode cX12_club 65 = .ok (.iadd, 1) := by decide +kernel
theorem dX12_club_66 : decode cX12_club 66 = .ok (.iconst 0, 1) := by decide +kernel
theorem dX12_club_67 : decode cX12_club 67 = .ok (.iastore, 1) := by decide +kernel
theorem dX12_club_68 : decode cX12_club 68 = .ok (.aload_n 0, 1) := by decide +kernel
theorem dX12_club_69 : decode cX12_club 69 = .ok (.getfield 9, 3) := by decide +kernel
theorem dX12_club_72 : decode cX12_club 72 = .ok (.sipush 188, 3) := by decide +kernel
theorem dX12_club_75 : decode cX12_club 75 = .ok (.aload_n 0, 1) := by decide +kernel
theorem dX12_club_76 : decode cX12_club 76 = .ok (.getfield 103, 3) := by decide +kernel
theorem dX12_club_79 : decode cX12_club 79 = .ok (.iadd, 1) := by decide +kernel
theorem dX12_club_80 : decode cX12_club 80 = .ok (.iconst 0, 1) := by decide +kernel
theorem dX12_club_81 : decode cX12_club 81 = .ok (.iastore, 1) := by decide +kernel
theorem dX12_club_82 : decode cX12_club 82 = .ok (.aload_n 0, 1) := by decide +kernel
theorem dX12_club_83 : decode cX12_club 83 = .ok (.iconst 0, 1) := by decide +kernel
theorem dX12_club_84 : decode cX12_club 84 = .ok (.putfield 77, 3) := by decide +kernel
theorem dX12_club_87 : decode cX12_club 87 = .ok (.aload_n 0, 1) := by decide +kernel
theorem dX12_club_88 : decode cX12_club 88 = .ok (.iconst 0, 1) := by decide +kernel
theorem dX12_club_89 : decode cX12_club 89 = .ok (.putfield 83, 3) := by decide +kernel
theorem dX12_club_92 : decode cX12_club 92 = .ok (.aload_n 0, 1) := by decide +kernel
theorem dX12_club_93 : decode cX12_club 93 = .ok (.iconst 0, 1) := by decide +kernel
theorem dX12_club_94 : decode cX12_club 94 = .ok (.putfield 106, 3) := by decide +kernel
theorem dX12_club_97 : decode cX12_club 97 = .ok (.iconst 1, 1) := by decide +kernel
theorem dX12_club_98 : decode cX12_club 98 = .ok (.istore_n 1, 1) := by decide +kernel
theorem dX12_club_99 : decode cX12_club 99 = .ok (.aload_n 0, 1) := by decide +kernel
theorem dX12_club_100 : decode cX12_club 100 = .ok (.invokevirtual 146, 3) := by decide +kernel
theorem dX12_club_103 : decode cX12_club 103 = .ok (.aload_n 0, 1) := by decide +kernel
theorem dX12_club_104 : decode cX12_club 104 = .ok (.getfield 83, 3) := by decide +kernel
theorem dX12_club_107 : decode cX12_club 107 = .ok (.ifCond .ne 38, 3) := by decide +kernel
theorem dX12_club_110 : decode cX12_club 110 = .ok (.iload_n 1, 1) := by decide +kernel
theorem dX12_club_111 : decode cX12_club 111 = .ok (.bipush 8, 2) := by decide +kernel
theorem dX12_club_113 : decode cX12_club 113 = .ok (.if_icmp .ge 32, 3) := by decide +kernel
theorem dX12_club_116 : decode cX12_club 116 = .ok (.aload_n 0, 1) := by decide +kernel
theorem dX12_club_117 : decode cX12_club 117 = .ok (.invokevirtual 87, 3) := by decide +kernel
theorem dX12_club_120 : decode cX12_club 120 = .ok (.bipush 59, 2) := by decide +kernel
theorem dX12_club_122 : decode cX12_club 122 = .ok (.if_icmp .ne 23, 3) := by decide +kernel
theorem dX12_club_125 : decode cX12_club 125 = .ok (.aload_n 0, 1) := by decide +kernel
theorem dX12_club_126 : decode cX12_club 126 = .ok (.dup, 1) := by decide +kernel
theorem dX12_club_127 : decode cX12_club 127 = .ok (.getfield 77, 3) := by decide +kernel
theorem dX12_club_130 : decode cX12_club 130 = .ok (.iconst 1, 1) := by decide +kernel
theorem dX12_club_131 : decode cX12_club 131 = .ok (.iadd, 1) := by decide +kernel
theorem dX12_club_132 : decode cX12_club 132 = .ok (.putfield 77, 3) := by decide +kernel
theorem dX12_club_135 : decode cX12_club 135 = .ok (.aload_n 0, 1) := by decide +kernel
theorem dX12_club_136 : decode cX12_club 136 = .ok (.invokevirtual 146, 3) := by decide +kernel
theorem dX12_club_139 : decode cX12_club 139 = .ok (.iinc 1 1, 3) := by decide +kernel
theorem dX12_club_142 : decode cX12_club 142 = .ok (.goto (-39), 3) := by decide +kernel
theorem dX12_club_145 : decode cX12_club 145 = .ok (.aload_n 0, 1) := by decide +kernel
theorem dX12_club_146 : decode cX12_club 146 = .ok (.getfield 83, 3) := by decide +kernel
theorem dX12_club_149 : decode cX12_club 149 = .ok (.ifCond .ne 14, 3) := by decide +kernel
theorem dX12_club_152 : decode cX12_club 152 = .ok (.aload_n 0, 1) := by decide +kernel
theorem dX12_club_153 : decode cX12_club 153 = .ok (.getfield 77, 3) := by decide +kernel
theorem dX12_club_156 : decode cX12_club 156 = .ok (.aload_n 0, 1) := by decide +kernel
theorem dX12_club_157 : decode cX12_club 157 = .ok (.getfield 80, 3) := by decide +kernel
theorem dX12_club_160 : decode cX12_club 160 = .ok (.if_icmp .eq 11, 3) := by decide +kernel
theorem dX12_club_163 : decode cX12_club 163 = .ok (.bipush (-10), 2) := by decide +kernel
theorem dX12_club_165 : decode cX12_club 165 = .ok (.aload_n 0, 1) := by decide +kernel
theorem dX12_club_166 : decode cX12_club 166 = .ok (.getfield 77, 3) := by decide +kernel
theorem dX12_club_169 : decode cX12_club 169 = .ok (.isub, 1) := by decide +kernel
theorem dX12_club_170 : decode cX12_club 170 = .ok (.ireturn, 1) := by decide +kernel
theorem dX12_club_171 : decode cX12_club 171 = .ok (.aload_n 0, 1) := by decide +kernel
theorem dX12_club_172 : decode cX12_club 172 = .ok (.getfield 9, 3) := by decide +kernel
theorem dX12_club_175 : decode cX12_club 175 = .ok (.iconst 1, 1) := by decide +kernel
theorem dX12_club_176 : decode cX12_club 176 = .ok (.dup2, 1) := by decide +kernel
theorem dX12_club_177 : decode cX12_club 177 = .ok (.iaload, 1) := by decide +kernel
theorem dX12_club_178 : decode cX12_club 178 = .ok (.iconst 1, 1) := by decide +kernel
theorem dX12_club_179 : decode cX12_club 179 = .ok (.iadd, 1) := by decide +kernel
theorem dX12_club_180 : decode cX12_club 180 = .ok (.iastore, 1) := by decide +kernel
theorem dX12_club_181 : decode cX12_club 181 = .ok (.aload_n 0, 1) := by decide +kernel
theorem dX12_club_182 : decode cX12_club 182 = .ok (.getfield 103, 3) := by decide +kernel
theorem dX12_club_185 : decode cX12_club 185 = .ok (.ireturn, 1) := by decide +kernel
theorem dX12_isLet_0 : decode cX12_isLet 0 = .ok (.iconst 0, 1) := by decide +kernel
theorem dX12_isLet_1 : decode cX12_isLet 1 = .ok (.istore_n 2, 1) := by decide +kernel
theorem dX12_isLet_2 : decode cX12_isLet 2 = .ok (.iconst 0, 1) := by decide +kernel
theorem dX12_isLet_3 : decode cX12_isLet 3 = .ok (.istore_n 3, 1) := by decide +kernel
theorem dX12_isLet_4 : decode cX12_isLet 4 = .ok (.iconst 0, 1) := by decide +kernel
theorem dX12_isLet_5 : decode cX12_isLet 5 = .ok (.istore 4, 2) := by decide +kernel
theorem dX12_isLet_7 : decode cX12_isLet 7 = .ok (.sipush 193, 3) := by decide +kernel
theorem dX12_isLet_10 : decode cX12_isLet 10 = .ok (.sipush 140, 3) := by decide +kernel
theorem dX12_isLet_13 : decode cX12_isLet 13 = .ok (.iload_n 1, 1) := by decide +kernel
theorem dX12_isLet_14 : decode cX12_isLet 14 = .ok (.imul, 1) := by decide +kernel
theorem dX12_isLet_15 : decode cX12_isLet 15 = .ok (.iadd, 1) := by decide +kernel
theorem dX12_isLet_16 : decode cX12_isLet 16 = .ok (.istore 5, 2) := by decide +kernel
theorem dX12_isLet_18 : decode cX12_isLet 18 = .ok (.iload 5, 2) := by decide +kernel
theorem dX12_isLet_20 : decode cX12_isLet 20 = .ok (.sipush 193, 3) := by decide +kernel
theorem dX12_isLet_23 : decode cX12_isLet 23 = .ok (.sipush 140, 3) := by decide +kernel
theorem dX12_isLet_26 : decode cX12_isLet 26 = .ok (.iload_n 1, 1) := by decide +kernel
theorem dX12_isLet_27 : decode cX12_isLet 27 = .ok (.imul, 1) := by decide +kernel
theorem dX12_isLet_28 : decode cX12_isLet 28 = .ok (.iadd, 1) := by decide +kernel
theorem dX12_isLet_29 : decode cX12_isLet 29 = .ok (.aload_n 0, 1) := by decide +kernel
theorem dX12_isLet_30 : decode cX12_isLet 30 = .ok (.getfield 9, 3) := by decide +kernel
theorem dX12_isLet_33 : decode cX12_isLet 33 = .ok (.sipush 188, 3) := by decide +kernel
theorem dX12_isLet_36 : decode cX12_isLet 36 = .ok (.iload_n 1, 1) := by decide +kernel
theorem dX12_isLet_37 : decode cX12_isLet 37 = .ok (.iadd, 1) := by decide +kernel
theorem dX12_isLet_38 : decode cX12_isLet 38 = .ok (.iaload, 1) := by decide +kernel
theorem dX12_isLet_39 : decode cX12_isLet 39 = .ok (.iadd, 1) := by decide +kernel
theorem dX12_isLet_40 : decode cX12_isLet 40 = .ok (.if_icmp .ge 300, 3) := by decide +kernel
theorem dX12_isLet_43 : decode cX12_isLet 43 = .ok (.aload_n 0, 1) := by decide +kernel
theorem dX12_isLet_44 : decode cX12_isLet 44 = .ok (.getfield 9, 3) := by decide +kernel
theorem dX12_isLet_47 : decode cX12_isLet 47 = .ok (.iload 5, 2) := by decide +kernel
theorem dX12_isLet_49 : decode cX12_isLet 49 = .ok (.iaload, 1) := by decide +kernel
theorem dX12_isLet_50 : decode cX12_isLet 50 = .ok (.istore 6, 2) := by decide +kernel
theorem dX12_isLet_52 : decode cX12_isLet 52 = .ok (.iload 6, 2) := by decide +kernel
theorem dX12_isLet_54 : decode cX12_isLet 54 = .ok (.ifCond .lt 97, 3) := by decide +kernel
theorem dX12_isLet_57 : decode cX12_isLet 57 = .ok (.aload_n 0, 1) := by decide +kernel
theorem dX12_isLet_58 : decode cX12_isLet 58 = .ok (.getfield 22, 3) := by decide +kernel
theorem dX12_isLet_61 : decode cX12_isLet 61 = .ok (.iload 6, 2) := by decide +kernel
theorem dX12_isLet_63 : decode cX12_isLet 63 = .ok (.bipush 8, 2) := by decide +kernel
theorem dX12_isLet_65 : decode cX12_isLet 65 = .ok (.irem, 1) := by decide +kernel
theorem dX12_isLet_66 : decode cX12_isLet 66 = .ok (.iaload, 1) := by decide +kernel
theorem dX12_isLet_67 : decode cX12_isLet 67 = .ok (.istore 7, 2) := by decide +kernel
theorem dX12_isLet_69 : decode cX12_isLet 69 = .ok (.iload 6, 2) := by decide +kernel
theorem dX12_isLet_71 : decode cX12_isLet 71 = .ok (.bipush 8, 2) := by decide +kernel
theorem dX12_isLet_73 : decode cX12_isLet 73 = .ok (.idiv, 1) := by decide +kernel
theorem dX12_isLet_74 : decode cX12_isLet 74 = .ok (.iconst 4, 1) := by decide +kernel
theorem dX12_isLet_75 : decode cX12_isLet 75 = .ok (.irem, 1) := by decide +kernel
theorem dX12_isLet_76 : decode cX12_isLet 76 = .ok (.istore 8, 2) := by decide +kernel
theorem dX12_isLet_78 : decode cX12_isLet 78 = .ok (.iload 6, 2) := by decide +kernel
theorem dX12_isLet_80 : decode cX12_isLet 80 = .ok (.bipush 32, 2) := by decide +kernel
theorem dX12_isLet_82 : decode cX12_isLet 82 = .ok (.idiv, 1) := by decide +kernel
theorem dX12_isLet_83 : decode cX12_isLet 83 = .ok (.istore 9, 2) := by decide +kernel
theorem dX12_isLet_85 : decode cX12_isLet 85 = .ok (.aload_n 0, 1) := by decide +kernel
theorem dX12_isLet_86 : decode cX12_isLet 86 = .ok (.getfield 18, 3) := by decide +kernel
theorem dX12_isLet_89 : decode cX12_isLet 89 = .ok (.iload 4, 2) := by decide +kernel
theorem dX12_isLet_91 : decode cX12_isLet 91 = .ok (.iload 8, 2) := by decide +kernel
theorem dX12_isLet_93 : decode cX12_isLet 93 = .ok (.ifCond .ne 18, 3) := by decide +kernel
theorem dX12_isLet_96 : decode cX12_isLet 96 = .ok (.iload 7, 2) := by decide +kernel
theorem dX12_isLet_98 : decode cX12_isLet 98 = .ok (.iload 9, 2) := by decide +kernel
theorem dX12_isLet_100 : decode cX12_isLet 100 = .ok (.if_icmp .ge 7, 3) := by decide +kernel
theorem dX12_isLet_103 : decode cX12_isLet 103 = .ok (.iconst 1, 1) := by decide +kernel
theorem dX12_isLet_104 : decode cX12_isLet 104 = .ok (.goto 40, 3) := by decide +kernel
theorem dX12_isLet_107 : decode cX12_isLet 107 = .ok (.iconst 0, 1) := by decide +kernel
theorem dX12_isLet_108 : decode cX12_isLet 108 = .ok (.goto 36, 3) := by decide +kernel
theorem dX12_isLet_111 : decode cX12_isLet 111 = .ok (.iload 8, 2) := by decide +kernel
theorem dX12_isLet_113 : decode cX12_isLet 113 = .ok (.iconst 1, 1) := by decide +kernel
theorem dX12_isLet_114 : decode cX12_isLet 114 = .ok (.if_icmp .ne 18, 3) := by decide +kernel
theorem dX12_isLet_117 : decode cX12_isLet 117 = .ok (.iload 7, 2) := by decide +kernel
theorem dX12_isLet_119 : decode cX12_isLet 119 = .ok (.iload 9, 2) := by decide +kernel
theorem dX12_isLet_121 : decode cX12_isLet 121 = .ok (.if_icmp .ne 7, 3) := by decide +kernel
theorem dX12_isLet_124 : decode cX12_isLet 124 = .ok (.iconst 1, 1) := by decide +kernel
theorem dX12_isLet_125 : decode cX12_isLet 125 = .ok (.goto 19, 3) := by decide +kernel
theorem dX12_isLet_128 : decode cX12_isLet 128 = .ok (.iconst 0, 1) := by decide +kernel
theorem dX12_isLet_129 : decode cX12_isLet 129 = .ok (.goto 15, 3) := by decide +kernel
theorem dX12_isLet_132 : decode cX12_isLet 132 = .ok (.iload 7, 2) := by decide +kernel
theorem dX12_isLet_134 : decode cX12_isLet 134 = .ok (.iload 9, 2) := by decide +kernel
theorem dX12_isLet_136 : decode cX12_isLet 136 = .ok (.if_icmp .le 7, 3) := by decide +kernel
theorem dX12_isLet_139 : decode cX12_isLet 139 = .ok (.iconst 1, 1) := by decide +kernel
theorem dX12_isLet_140 : decode cX12_isLet 140 = .ok (.goto 4, 3) := by decide +kernel
theorem dX12_isLet_143 : decode cX12_isLet 143 = .ok (.iconst 0, 1) := by decide +kernel
theorem dX12_isLet_144 : decode cX12_isLet 144 = .ok (.bastore, 1) := by decide +kernel
theorem dX12_isLet_145 : decode cX12_isLet 145 = .ok (.iinc 4 1, 3) := by decide +kernel
theorem dX12_isLet_148 : decode cX12_isLet 148 = .ok (.goto 186, 3) := by decide +kernel
theorem dX12_isLet_151 : decode cX12_isLet 151 = .ok (.iload 6, 2) := by decide +kernel
theorem dX12_isLet_153 : decode cX12_isLet 153 = .ok (.iconst (-1), 1) := by decide +kernel
theorem dX12_isLet_154 : decode cX12_isLet 154 = .ok (.if_icmp .ne 32, 3) := by decide +kernel
theorem dX12_isLet_157 : decode cX12_isLet 157 = .ok (.aload_n 0, 1) := by decide +kernel
theorem dX12_isLet_158 : decode cX12_isLet 158 = .ok (.getfield 18, 3) := by decide +kernel
theorem dX12_isLet_161 : decode cX12_isLet 161 = .ok (.iload 4, 2) := by decide +kernel
theorem dX12_isLet_163 : decode cX12_isLet 163 = .ok (.iconst 1, 1) := by decide +kernel
theorem dX12_isLet_164 : decode cX12_isLet 164 = .ok (.isub, 1) := by decide +kernel
theorem dX12_isLet_165 : decode cX12_isLet 165 = .ok (.aload_n 0, 1) := by decide +kernel
theorem dX12_isLet_166 : decode cX12_isLet 166 = .ok (.getfield 18, 3) := by decide +kernel
theorem dX12_isLet_169 : decode cX12_isLet 169 = .ok (.iload 4, 2) := by decide +kernel
theorem dX12_isLet_171 : decode cX12_isLet 171 = .ok (.iconst 1, 1) := by decide +kernel
theorem dX12_isLet_172 : decode cX12_isLet 172 = .ok (.isub, 1) := by decide +kernel
theorem dX12_isLet_173 : decode cX12_isLet 173 = .ok (.baload, 1) := by decide +kernel
theorem dX12_isLet_174 : decode cX12_isLet 174 = .ok (.ifCond .ne 7, 3) := by decide +kernel
theorem dX12_isLet_177 : decode cX12_isLet 177 = .ok (.iconst 1, 1) := by decide +kernel
theorem dX12_isLet_178 : decode cX12_isLet 178 = .ok (.goto 4, 3) := by decide +kernel
theorem dX12_isLet_181 : decode cX12_isLet 181 = .ok (.iconst 0, 1) := by decide +kernel
theorem dX12_isLet_182 : decode cX12_isLet 182 = .ok (.bastore, 1) := by decide +kernel
theorem dX12_isLet_183 : decode cX12_isLet 183 = .ok (.goto 151, 3) := by decide +kernel
theorem dX12_isLet_186 : decode cX12_isLet 186 = .ok (.iload 6, 2) := by decide +kernel
theorem dX12_isLet_188 : decode cX12_isLet 188 = .ok (.bipush (-4), 2) := by decide +kernel
theorem dX12_isLet_190 : decode cX12_isLet 190 = .ok (.if_icmp .eq 10, 3) := by decide +kernel
theorem dX12_isLet_193 : decode cX12_isLet 193 = .ok (.iload 6, 2) := by decide +kernel
theorem dX12_isLet_195 : decode cX12_isLet 195 = .ok (.bipush (-5), 2) := by decide +kernel
theorem dX12_isLet_197 : decode cX12_isLet 197 = .ok (.if_icmp .ne 61, 3) := by decide +kernel
theorem dX12_isLet_200 : decode cX12_isLet 200 = .ok (.iconst 0, 1) := by decide +kernel
theorem dX12_isLet_201 : decode cX12_isLet 201 = .ok (.istore 4, 2) := by decide +kernel
theorem dX12_isLet_203 : decode cX12_isLet 203 = .ok (.iload_n 2, 1) := by decide +kernel
theorem dX12_isLet_204 : decode cX12_isLet 204 = .ok (.ifCond .ne 19, 3) := by decide +kernel
theorem dX12_isLet_207 : decode cX12_isLet 207 = .ok (.iload 6, 2) := by decide +kernel
theorem dX12_isLet_209 : decode cX12_isLet 209 = .ok (.bipush (-4), 2) := by decide +kernel
theorem dX12_isLet_211 : decode cX12_isLet 211 = .ok (.if_icmp .ne 16, 3) := by decide +kernel
theorem dX12_isLet_214 : decode cX12_isLet 214 = .ok (.aload_n 0, 1) := by decide +kernel
theorem dX12_isLet_215 : decode cX12_isLet 215 = .ok (.getfield 18, 3) := by decide +kernel
theorem dX12_isLet_218 : decode cX12_isLet 218 = .ok (.iconst 0, 1) := by decide +kernel
theorem dX12_isLet_219 : decode cX12_isLet 219 = .ok (.baload, 1) := by decide +kernel
theorem dX12_isLet_220 : decode cX12_isLet 220 = .ok (.ifCond .eq 7, 3) := by decide +kernel
theorem dX12_isLet_223 : decode cX12_isLet 223 = .ok (.iconst 1, 1) := by decide +kernel
theorem dX12_isLet_224 : decode cX12_isLet 224 = .ok (.goto 4, 3) := by decide +kernel
theorem dX12_isLet_227 : decode cX12_isLet 227 = .ok (.iconst 0, 1) := by decide +kernel
theorem dX12_isLet_228 : decode cX12_isLet 228 = .ok (.istore_n 2, 1) := by decide +kernel
theorem dX12_isLet_229 : decode cX12_isLet 229 = .ok (.iload_n 3, 1) := by decide +kernel
theorem dX12_isLet_230 : decode cX12_isLet 230 = .ok (.ifCond .ne 19, 3) := by decide +kernel
theorem dX12_isLet_233 : decode cX12_isLet 233 = .ok (.iload 6, 2) := by decide +kernel
theorem dX12_isLet_235 : decode cX12_isLet 235 = .ok (.bipush (-5), 2) := by decide +kernel
theorem dX12_isLet_237 : decode cX12_isLet 237 = .ok (.if_icmp .ne 16, 3) := by decide +kernel
theorem dX12_isLet_240 : decode cX12_isLet 240 = .ok (.aload_n 0, 1) := by decide +kernel
theorem dX12_isLet_241 : decode cX12_isLet 241 = .ok (.getfield 18, 3) := by decide +kernel
theorem dX12_isLet_244 : decode cX12_isLet 244 = .ok (.iconst 0, 1) := by decide +kernel
theorem dX12_isLet_245 : decode cX12_isLet 245 = .ok (.baload, 1) := by decide +kernel
theorem dX12_isLet_246 : decode cX12_isLet 246 = .ok (.ifCond .eq 7, 3) := by decide +kernel
theorem dX12_isLet_249 : decode cX12_isLet 249 = .ok (.iconst 1, 1) := by decide +kernel
theorem dX12_isLet_250 : decode cX12_isLet 250 = .ok (.goto 4, 3) := by decide +kernel
theorem dX12_isLet_253 : decode cX12_isLet 253 = .ok (.iconst 0, 1) := by decide +kernel
theorem dX12_isLet_254 : decode cX12_isLet 254 = .ok (.istore_n 3, 1) := by decide +kernel
theorem dX12_isLet_255 : decode cX12_isLet 255 = .ok (.goto 79, 3) := by decide +kernel
theorem dX12_isLet_258 : decode cX12_isLet 258 = .ok (.iinc 4 (-1), 3) := by decide +kernel
theorem dX12_isLet_261 : decode cX12_isLet 261 = .ok (.aload_n 0, 1) := by decide +kernel
theorem dX12_isLet_262 : decode cX12_isLet 262 = .ok (.getfield 18, 3) := by decide +kernel
theorem dX12_isLet_265 : decode cX12_isLet 265 = .ok (.iload 4, 2) := by decide +kernel
theorem dX12_isLet_267 : decode cX12_isLet 267 = .ok (.iconst 1, 1) := by decide +kernel
theorem dX12_isLet_268 : decode cX12_isLet 268 = .ok (.isub, 1) := by decide +kernel
theorem dX12_isLet_269 : decode cX12_isLet 269 = .ok (.iload 6, 2) := by decide +kernel
theorem dX12_isLet_271 : decode cX12_isLet 271 = .ok (.bipush (-2), 2) := by decide +kernel
theorem dX12_isLet_273 : decode cX12_isLet 273 = .ok (.if_icmp .ne 33, 3) := by decide +kernel
theorem dX12_isLet_276 : decode cX12_isLet 276 = .ok (.aload_n 0, 1) := by decide +kernel
theorem dX12_isLet_277 : decode cX12_isLet 277 = .ok (.getfield 18, 3) := by decide +kernel
theorem dX12_isLet_280 : decode cX12_isLet 280 = .ok (.iload 4, 2) := by decide +kernel
theorem dX12_isLet_282 : decode cX12_isLet 282 = .ok (.iconst 1, 1) := by decide +kernel
theorem dX12_isLet_283 : decode cX12_isLet 283 = .ok (.isub, 1) := by decide +kernel
theorem dX12_isLet_284 : decode cX12_isLet 284 = .ok (.baload, 1) := by decide +kernel
theorem dX12_isLet_285 : decode cX12_isLet 285 = .ok (.ifCond .eq 17, 3) := by decide +kernel
theorem dX12_isLet_288 : decode cX12_isLet 288 = .ok (.aload_n 0, 1) := by decide +kernel
theorem dX12_isLet_289 : decode cX12_isLet 289 = .ok (.getfield 18, 3) := by decide +kernel
theorem dX12_isLet_292 : decode cX12_isLet 292 = .ok (.iload 4, 2) := by decide +kernel
theorem dX12_isLet_294 : decode cX12_isLet 294 = .ok (.baload, 1) := by decide +kernel
theorem dX12_isLet_295 : decode cX12_isLet 295 = .ok (.ifCond .eq 7, 3) := by decide +kernel
theorem dX12_isLet_298 : decode cX12_isLet 298 = .ok (.iconst 1, 1) := by decide +kernel
theorem dX12_isLet_299 : decode cX12_isLet 299 = .ok (.goto 34, 3) := by decide +kernel
theorem dX12_isLet_302 : decode cX12_isLet 302 = .ok (.iconst 0, 1) := by decide +kernel
theorem dX12_isLet_303 : decode cX12_isLet 303 = .ok (.goto 30, 3) := by decide +kernel
theorem dX12_isLet_306 : decode cX12_isLet 306 = .ok (.aload_n 0, 1) := by decide +kernel
theorem dX12_isLet_307 : decode cX12_isLet 307 = .ok (.getfield 18, 3) := by decide +kernel
theorem dX12_isLet_310 : decode cX12_isLet 310 = .ok (.iload 4, 2) := by decide +kernel
theorem dX12_isLet_312 : decode cX12_isLet 312 = .ok (.iconst 1, 1) := by decide +kernel
theorem dX12_isLet_313 : decode cX12_isLet 313 = .ok (.isub, 1) := by decide +kernel
theorem dX12_isLet_314 : decode cX12_isLet 314 = .ok (.baload, 1) := by decide +kernel
theorem dX12_isLet_315 : decode cX12_isLet 315 = .ok (.ifCond .ne 13, 3) := by decide +kernel
theorem dX12_isLet_318 : decode cX12_isLet 318 = .ok (.aload_n 0, 1) := by decide +kernel
theorem dX12_isLet_319 : decode cX12_isLet 319 = .ok (.getfield 18, 3) := by decide +kernel
theorem dX12_isLet_322 : decode cX12_isLet 322 = .ok (.iload 4, 2) := by decide +kernel
theorem dX12_isLet_324 : decode cX12_isLet 324 = .ok (.baload, 1) := by decide +kernel
theorem dX12_isLet_325 : decode cX12_isLet 325 = .ok (.ifCond .eq 7, 3) := by decide +kernel
theorem dX12_isLet_328 : decode cX12_isLet 328 = .ok (.iconst 1, 1) := by decide +kernel
theorem dX12_isLet_329 : decode cX12_isLet 329 = .ok (.goto 4, 3) := by decide +kernel
theorem dX12_isLet_332 : decode cX12_isLet 332 = .ok (.iconst 0, 1) := by decide +kernel
theorem dX12_isLet_333 : decode cX12_isLet 333 = .ok (.bastore, 1) := by decide +kernel
theorem dX12_isLet_334 : decode cX12_isLet 334 = .ok (.iinc 5 1, 3) := by decide +kernel
theorem dX12_isLet_337 : decode cX12_isLet 337 = .ok (.goto (-319), 3) := by decide +kernel
theorem dX12_isLet_340 : decode cX12_isLet 340 = .ok (.iload_n 2, 1) := by decide +kernel
theorem dX12_isLet_341 : decode cX12_isLet 341 = .ok (.ifCond .eq 7, 3) := by decide +kernel
theorem dX12_isLet_344 : decode cX12_isLet 344 = .ok (.iload_n 3, 1) := by decide +kernel
theorem dX12_isLet_345 : decode cX12_isLet 345 = .ok (.ifCond .eq 7, 3) := by decide +kernel
theorem dX12_isLet_348 : decode cX12_isLet 348 = .ok (.iconst 1, 1) := by decide +kernel
theorem dX12_isLet_349 : decode cX12_isLet 349 = .ok (.goto 4, 3) := by decide +kernel
theorem dX12_isLet_352 : decode cX12_isLet 352 = .ok (.iconst 0, 1) := by decide +kernel
theorem dX12_isLet_353 : decode cX12_isLet 353 = .ok (.ireturn, 1) := by decide +kernel
theorem dX12_mayAsk_0 : decode cX12_mayAsk 0 = .ok (.iload_n 2, 1) := by decide +kernel
theorem dX12_mayAsk_1 : decode cX12_mayAsk 1 = .ok (.iload 4, 2) := by decide +kernel
theorem dX12_mayAsk_3 : decode cX12_mayAsk 3 = .ok (.iload 5, 2) := by decide +kernel
theorem dX12_mayAsk_5 : decode cX12_mayAsk 5 = .ok (.isub, 1) := by decide +kernel
theorem dX12_mayAsk_6 : decode cX12_mayAsk 6 = .ok (.invokestatic 52, 3) := by decide +kernel
theorem dX12_mayAsk_9 : decode cX12_mayAsk 9 = .ok (.istore 7, 2) := by decide +kernel
theorem dX12_mayAsk_11 : decode cX12_mayAsk 11 = .ok (.aload_n 0, 1) := by decide +kernel
theorem dX12_mayAsk_12 : decode cX12_mayAsk 12 = .ok (.getfield 22, 3) := by decide +kernel
theorem dX12_mayAsk_15 : decode cX12_mayAsk 15 = .ok (.iconst 0, 1) := by decide +kernel
theorem dX12_mayAsk_16 : decode cX12_mayAsk 16 = .ok (.iload_n 3, 1) := by decide +kernel
theorem dX12_mayAsk_17 : decode cX12_mayAsk 17 = .ok (.iastore, 1) := by decide +kernel
theorem dX12_mayAsk_18 : decode cX12_mayAsk 18 = .ok (.aload_n 0, 1) := by decide +kernel
theorem dX12_mayAsk_19 : decode cX12_mayAsk 19 = .ok (.getfield 22, 3) := by decide +kernel
theorem dX12_mayAsk_22 : decode cX12_mayAsk 22 = .ok (.iconst 1, 1) := by decide +kernel
theorem dX12_mayAsk_23 : decode cX12_mayAsk 23 = .ok (.iload 7, 2) := by decide +kernel
theorem dX12_mayAsk_25 : decode cX12_mayAsk 25 = .ok (.iastore, 1) := by decide +kernel
theorem dX12_mayAsk_26 : decode cX12_mayAsk 26 = .ok (.aload_n 0, 1) := by decide +kernel
theorem dX12_mayAsk_27 : decode cX12_mayAsk 27 = .ok (.getfield 22, 3) := by decide +kernel
theorem dX12_mayAsk_30 : decode cX12_mayAsk 30 = .ok (.iconst 2, 1) := by decide +kernel
theorem dX12_mayAsk_31 : decode cX12_mayAsk 31 = .ok (.iload 4, 2) := by decide +kernel
theorem dX12_mayAsk_33 : decode cX12_mayAsk 33 = .ok (.iastore, 1) := by decide +kernel
theorem dX12_mayAsk_34 : decode cX12_mayAsk 34 = .ok (.aload_n 0, 1) := by decide +kernel
theorem dX12_mayAsk_35 : decode cX12_mayAsk 35 = .ok (.getfield 22, 3) := by decide +kernel
theorem dX12_mayAsk_38 : decode cX12_mayAsk 38 = .ok (.iconst 3, 1) := by decide +kernel
theorem dX12_mayAsk_39 : decode cX12_mayAsk 39 = .ok (.iload 5, 2) := by decide +kernel
theorem dX12_mayAsk_41 : decode cX12_mayAsk 41 = .ok (.iastore, 1) := by decide +kernel
theorem dX12_mayAsk_42 : decode cX12_mayAsk 42 = .ok (.aload_n 0, 1) := by decide +kernel
theorem dX12_mayAsk_43 : decode cX12_mayAsk 43 = .ok (.getfield 22, 3) := by decide +kernel
theorem dX12_mayAsk_46 : decode cX12_mayAsk 46 = .ok (.iconst 4, 1) := by decide +kernel
theorem dX12_mayAsk_47 : decode cX12_mayAsk 47 = .ok (.aload_n 0, 1) := by decide +kernel
theorem dX12_mayAsk_48 : decode cX12_mayAsk 48 = .ok (.getfield 9, 3) := by decide +kernel
theorem dX12_mayAsk_51 : decode cX12_mayAsk 51 = .ok (.sipush 130, 3) := by decide +kernel
theorem dX12_mayAsk_54 : decode cX12_mayAsk 54 = .ok (.bipush 6, 2) := by decide +kernel
theorem dX12_mayAsk_56 : decode cX12_mayAsk 56 = .ok (.iload_n 3, 1) := by decide +kernel
theorem dX12_mayAsk_57 : decode cX12_mayAsk 57 = .ok (.imul, 1) := by decide +kernel
theorem dX12_mayAsk_58 : decode cX12_mayAsk 58 = .ok (.iadd, 1) := by decide +kernel
theorem dX12_mayAsk_59 : decode cX12_mayAsk 59 = .ok (.iload 7, 2) := by decide +kernel
theorem dX12_mayAsk_61 : decode cX12_mayAsk 61 = .ok (.iadd, 1) := by decide +kernel
theorem dX12_mayAsk_62 : decode cX12_mayAsk 62 = .ok (.iaload, 1) := by decide +kernel
theorem dX12_mayAsk_63 : decode cX12_mayAsk 63 = .ok (.iastore, 1) := by decide +kernel
theorem dX12_mayAsk_64 : decode cX12_mayAsk 64 = .ok (.aload_n 0, 1) := by decide +kernel
theorem dX12_mayAsk_65 : decode cX12_mayAsk 65 = .ok (.getfield 22, 3) := by decide +kernel
theorem dX12_mayAsk_68 : decode cX12_mayAsk 68 = .ok (.iconst 5, 1) := by decide +kernel
theorem dX12_mayAsk_69 : decode cX12_mayAsk 69 = .ok (.iload 6, 2) := by decide +kernel
theorem dX12_mayAsk_71 : decode cX12_mayAsk 71 = .ok (.bipush 7, 2) := by decide +kernel
theorem dX12_mayAsk_73 : decode cX12_mayAsk 73 = .ok (.irem, 1) := by decide +kernel
theorem dX12_mayAsk_74 : decode cX12_mayAsk 74 = .ok (.iastore, 1) := by decide +kernel
theorem dX12_mayAsk_75 : decode cX12_mayAsk 75 = .ok (.iload 7, 2) := by decide +kernel
theorem dX12_mayAsk_77 : decode cX12_mayAsk 77 = .ok (.aload_n 0, 1) := by decide +kernel
theorem dX12_mayAsk_78 : decode cX12_mayAsk 78 = .ok (.getfield 25, 3) := by decide +kernel
theorem dX12_mayAsk_81 : decode cX12_mayAsk 81 = .ok (.if_icmp .eq 15, 3) := by decide +kernel
theorem dX12_mayAsk_84 : decode cX12_mayAsk 84 = .ok (.aload_n 0, 1) := by decide +kernel
theorem dX12_mayAsk_85 : decode cX12_mayAsk 85 = .ok (.iload_n 1, 1) := by decide +kernel
theorem dX12_mayAsk_86 : decode cX12_mayAsk 86 = .ok (.invokevirtual 149, 3) := by decide +kernel
theorem dX12_mayAsk_89 : decode cX12_mayAsk 89 = .ok (.ifCond .eq 7, 3) := by decide +kernel
theorem dX12_mayAsk_92 : decode cX12_mayAsk 92 = .ok (.iconst 1, 1) := by decide +kernel
theorem dX12_mayAsk_93 : decode cX12_mayAsk 93 = .ok (.goto 4, 3) := by decide +kernel
theorem dX12_mayAsk_96 : decode cX12_mayAsk 96 = .ok (.iconst 0, 1) := by decide +kernel
theorem dX12_mayAsk_97 : decode cX12_mayAsk 97 = .ok (.ireturn, 1) := by decide +kernel
theorem dX12_mayAll_0 : decode cX12_mayAll 0 = .ok (.aload_n 0, 1) := by decide +kernel
theorem dX12_mayAll_1 : decode cX12_mayAll 1 = .ok (.iload_n 2, 1) := by decide +kernel
theorem dX12_mayAll_2 : decode cX12_mayAll 2 = .ok (.iload_n 3, 1) := by decide +kernel
theorem dX12_mayAll_3 : decode cX12_mayAll 3 = .ok (.invokevirtual 68, 3) := by decide +kernel
theorem dX12_mayAll_6 : decode cX12_mayAll 6 = .ok (.istore 5, 2) := by decide +kernel
theorem dX12_mayAll_8 : decode cX12_mayAll 8 = .ok (.iconst 0, 1) := by decide +kernel
theorem dX12_mayAll_9 : decode cX12_mayAll 9 = .ok (.istore 6, 2) := by decide +kernel
theorem dX12_mayAll_11 : decode cX12_mayAll 11 = .ok (.iconst 1, 1) := by decide +kernel
theorem dX12_mayAll_12 : decode cX12_mayAll 12 = .ok (.istore 7, 2) := by decide +kernel
theorem dX12_mayAll_14 : decode cX12_mayAll 14 = .ok (.iload 7, 2) := by decide +kernel
theorem dX12_mayAll_16 : decode cX12_mayAll 16 = .ok (.aload_n 0, 1) := by decide +kernel
theorem dX12_mayAll_17 : decode cX12_mayAll 17 = .ok (.getfield 9, 3) := by decide +kernel
theorem dX12_mayAll_20 : decode cX12_mayAll 20 = .ok (.sipush 178, 3) := by decide +kernel
theorem dX12_mayAll_23 : decode cX12_mayAll 23 = .ok (.iload_n 1, 1) := by decide +kernel
theorem dX12_mayAll_24 : decode cX12_mayAll 24 = .ok (.iadd, 1) := by decide +kernel
theorem dX12_mayAll_25 : decode cX12_mayAll 25 = .ok (.iaload, 1) := by decide +kernel
theorem dX12_mayAll_26 : decode cX12_mayAll 26 = .ok (.if_icmp .gt 52, 3) := by decide +kernel
theorem dX12_mayAll_29 : decode cX12_mayAll 29 = .ok (.iload 7, 2) := by decide +kernel
theorem dX12_mayAll_31 : decode cX12_mayAll 31 = .ok (.iload 5, 2) := by decide +kernel
theorem dX12_mayAll_33 : decode cX12_mayAll 33 = .ok (.if_icmp .gt 45, 3) := by decide +kernel
theorem dX12_mayAll_36 : decode cX12_mayAll 36 = .ok (.iload 6, 2) := by decide +kernel
theorem dX12_mayAll_38 : decode cX12_mayAll 38 = .ok (.aload_n 0, 1) := by decide +kernel
theorem dX12_mayAll_39 : decode cX12_mayAll 39 = .ok (.iload_n 1, 1) := by decide +kernel
theorem dX12_mayAll_40 : decode cX12_mayAll 40 = .ok (.iload_n 2, 1) := by decide +kernel
theorem dX12_mayAll_41 : decode cX12_mayAll 41 = .ok (.iload_n 3, 1) := by decide +kernel
theorem dX12_mayAll_42 : decode cX12_mayAll 42 = .ok (.iload 5, 2) := by decide +kernel
theorem dX12_mayAll_44 : decode cX12_mayAll 44 = .ok (.iload 7, 2) := by decide +kernel
theorem dX12_mayAll_46 : decode cX12_mayAll 46 = .ok (.iload 4, 2) := by decide +kernel
theorem dX12_mayAll_48 : decode cX12_mayAll 48 = .ok (.invokevirtual 152, 3) := by decide +kernel
theorem dX12_mayAll_51 : decode cX12_mayAll 51 = .ok (.ifCond .eq 17, 3) := by decide +kernel
theorem dX12_mayAll_54 : decode cX12_mayAll 54 = .ok (.iconst 1, 1) := by decide +kernel
theorem dX12_mayAll_55 : decode cX12_mayAll 55 = .ok (.iload_n 2, 1) := by decide +kernel
theorem dX12_mayAll_56 : decode cX12_mayAll 56 = .ok (.iload 5, 2) := by decide +kernel
theorem dX12_mayAll_58 : decode cX12_mayAll 58 = .ok (.iload 7, 2) := by decide +kernel
theorem dX12_mayAll_60 : decode cX12_mayAll 60 = .ok (.isub, 1) := by decide +kernel
theorem dX12_mayAll_61 : decode cX12_mayAll 61 = .ok (.invokestatic 52, 3) := by decide +kernel
theorem dX12_mayAll_64 : decode cX12_mayAll 64 = .ok (.ishl, 1) := by decide +kernel
theorem dX12_mayAll_65 : decode cX12_mayAll 65 = .ok (.goto 4, 3) := by decide +kernel
theorem dX12_mayAll_68 : decode cX12_mayAll 68 = .ok (.iconst 0, 1) := by decide +kernel
theorem dX12_mayAll_69 : decode cX12_mayAll 69 = .ok (.ior, 1) := by decide +kernel
theorem dX12_mayAll_70 : decode cX12_mayAll 70 = .ok (.istore 6, 2) := by decide +kernel
theorem dX12_mayAll_72 : decode cX12_mayAll 72 = .ok (.iinc 7 1, 3) := by decide +kernel
theorem dX12_mayAll_75 : decode cX12_mayAll 75 = .ok (.goto (-61), 3) := by decide +kernel
theorem dX12_mayAll_78 : decode cX12_mayAll 78 = .ok (.iload 6, 2) := by decide +kernel
theorem dX12_mayAll_80 : decode cX12_mayAll 80 = .ok (.ireturn, 1) := by decide +kernel
theorem dX12_may_0 : decode cX12_may 0 = .ok (.aload_n 0, 1) := by decide +kernel
theorem dX12_may_1 : decode cX12_may 1 = .ok (.iload_n 1, 1) := by decide +kernel
theorem dX12_may_2 : decode cX12_may 2 = .ok (.invokevirtual 156, 3) := by decide +kernel
theorem dX12_may_5 : decode cX12_may 5 = .ok (.ifCond .eq 11, 3) := by decide +kernel
theorem dX12_may_8 : decode cX12_may 8 = .ok (.aload_n 0, 1) := by decide +kernel
theorem dX12_may_9 : decode cX12_may 9 = .ok (.iload_n 2, 1) := by decide +kernel
theorem dX12_may_10 : decode cX12_may 10 = .ok (.invokevirtual 60, 3) := by decide +kernel
theorem dX12_may_13 : decode cX12_may 13 = .ok (.ifCond .ne 5, 3) := by decide +kernel
theorem dX12_may_16 : decode cX12_may 16 = .ok (.iconst (-1), 1) := by decide +kernel
theorem dX12_may_17 : decode cX12_may 17 = .ok (.ireturn, 1) := by decide +kernel
theorem dX12_may_18 : decode cX12_may 18 = .ok (.iload_n 3, 1) := by decide +kernel
theorem dX12_may_19 : decode cX12_may 19 = .ok (.invokestatic 159, 3) := by decide +kernel
theorem dX12_may_22 : decode cX12_may 22 = .ok (.ifCond .eq 20, 3) := by decide +kernel
theorem dX12_may_25 : decode cX12_may 25 = .ok (.aload_n 0, 1) := by decide +kernel
theorem dX12_may_26 : decode cX12_may 26 = .ok (.iload_n 1, 1) := by decide +kernel
theorem dX12_may_27 : decode cX12_may 27 = .ok (.aload_n 0, 1) := by decide +kernel
theorem dX12_may_28 : decode cX12_may 28 = .ok (.getfield 9, 3) := by decide +kernel
theorem dX12_may_31 : decode cX12_may 31 = .ok (.bipush 6, 2) := by decide +kernel
theorem dX12_may_33 : decode cX12_may 33 = .ok (.iaload, 1) := by decide +kernel
theorem dX12_may_34 : decode cX12_may 34 = .ok (.iload_n 2, 1) := by decide +kernel
theorem dX12_may_35 : decode cX12_may 35 = .ok (.iload_n 3, 1) := by decide +kernel
theorem dX12_may_36 : decode cX12_may 36 = .ok (.invokevirtual 162, 3) := by decide +kernel
theorem dX12_may_39 : decode cX12_may 39 = .ok (.goto 5, 3) := by decide +kernel
theorem dX12_may_42 : decode cX12_may 42 = .ok (.bipush (-2), 2) := by decide +kernel
theorem dX12_may_44 : decode cX12_may 44 = .ok (.ireturn, 1) := by decide +kernel
theorem dX12_asker_0 : decode cX12_asker 0 = .ok (.aload_n 0, 1) := by decide +kernel
theorem dX12_asker_1 : decode cX12_asker 1 = .ok (.iload_n 1, 1) := by decide +kernel
theorem dX12_asker_2 : decode cX12_asker 2 = .ok (.invokevirtual 60, 3) := by decide +kernel
theorem dX12_asker_5 : decode cX12_asker 5 = .ok (.ifCond .eq 13, 3) := by decide +kernel
theorem dX12_asker_8 : decode cX12_asker 8 = .ok (.iload_n 2, 1) := by decide +kernel
theorem dX12_asker_9 : decode cX12_asker 9 = .ok (.iconst 0, 1) := by decide +kernel
theorem dX12_asker_10 : decode cX12_asker 10 = .ok (.bipush 6, 2) := by decide +kernel
theorem dX12_asker_12 : decode cX12_asker 12 = .ok (.invokestatic 48, 3) := by decide +kernel
theorem dX12_asker_15 : decode cX12_asker 15 = .ok (.ifCond .ne 5, 3) := by decide +kernel
theorem dX12_asker_18 : decode cX12_asker 18 = .ok (.iconst (-1), 1) := by decide +kernel
theorem dX12_asker_19 : decode cX12_asker 19 = .ok (.ireturn, 1) := by decide +kernel
theorem dX12_asker_20 : decode cX12_asker 20 = .ok (.iload_n 3, 1) := by decide +kernel
theorem dX12_asker_21 : decode cX12_asker 21 = .ok (.iconst 0, 1) := by decide +kernel
theorem dX12_asker_22 : decode cX12_asker 22 = .ok (.bipush 100, 2) := by decide +kernel
theorem dX12_asker_24 : decode cX12_asker 24 = .ok (.invokestatic 48, 3) := by decide +kernel
theorem dX12_asker_27 : decode cX12_asker 27 = .ok (.ifCond .ne 6, 3) := by decide +kernel
theorem dX12_asker_30 : decode cX12_asker 30 = .ok (.bipush (-2), 2) := by decide +kernel
theorem dX12_asker_32 : decode cX12_asker 32 = .ok (.ireturn, 1) := by decide +kernel
theorem dX12_asker_33 : decode cX12_asker 33 = .ok (.aload_n 0, 1) := by decide +kernel
theorem dX12_asker_34 : decode cX12_asker 34 = .ok (.getfield 9, 3) := by decide +kernel
theorem dX12_asker_37 : decode cX12_asker 37 = .ok (.sipush 166, 3) := by decide +kernel
theorem dX12_asker_40 : decode cX12_asker 40 = .ok (.iload_n 1, 1) := by decide +kernel
theorem dX12_asker_41 : decode cX12_asker 41 = .ok (.iadd, 1) := by decide +kernel
theorem dX12_asker_42 : decode cX12_asker 42 = .ok (.iaload, 1) := by decide +kernel
theorem dX12_asker_43 : decode cX12_asker 43 = .ok (.istore 4, 2) := by decide +kernel
theorem dX12_asker_45 : decode cX12_asker 45 = .ok (.aload_n 0, 1) := by decide +kernel
theorem dX12_asker_46 : decode cX12_asker 46 = .ok (.getfield 9, 3) := by decide +kernel
theorem dX12_asker_49 : decode cX12_asker 49 = .ok (.sipush 166, 3) := by decide +kernel
theorem dX12_asker_52 : decode cX12_asker 52 = .ok (.iload_n 1, 1) := by decide +kernel
theorem dX12_asker_53 : decode cX12_asker 53 = .ok (.iadd, 1) := by decide +kernel
theorem dX12_asker_54 : decode cX12_asker 54 = .ok (.iload_n 2, 1) := by decide +kernel
theorem dX12_asker_55 : decode cX12_asker 55 = .ok (.iastore, 1) := by decide +kernel
theorem dX12_asker_56 : decode cX12_asker 56 = .ok (.aload_n 0, 1) := by decide +kernel
theorem dX12_asker_57 : decode cX12_asker 57 = .ok (.getfield 9, 3) := by decide +kernel
theorem dX12_asker_60 : decode cX12_asker 60 = .ok (.sipush 172, 3) := by decide +kernel
theorem dX12_asker_63 : decode cX12_asker 63 = .ok (.iload_n 1, 1) := by decide +kernel
theorem dX12_asker_64 : decode cX12_asker 64 = .ok (.iadd, 1) := by decide +kernel
theorem dX12_asker_65 : decode cX12_asker 65 = .ok (.iload_n 3, 1) := by decide +kernel
theorem dX12_asker_66 : decode cX12_asker 66 = .ok (.iastore, 1) := by decide +kernel
theorem dX12_asker_67 : decode cX12_asker 67 = .ok (.iload 4, 2) := by decide +kernel
theorem dX12_asker_69 : decode cX12_asker 69 = .ok (.ireturn, 1) := by decide +kernel
theorem dX12_worth_0 : decode cX12_worth 0 = .ok (.aload_n 0, 1) := by decide +kernel
theorem dX12_worth_1 : decode cX12_worth 1 = .ok (.getfield 9, 3) := by decide +kernel
theorem dX12_worth_4 : decode cX12_worth 4 = .ok (.sipush 130, 3) := by decide +kernel
theorem dX12_worth_7 : decode cX12_worth 7 = .ok (.bipush 6, 2) := by decide +kernel
theorem dX12_worth_9 : decode cX12_worth 9 = .ok (.iload_n 2, 1) := by decide +kernel
theorem dX12_worth_10 : decode cX12_worth 10 = .ok (.imul, 1) := by decide +kernel
theorem dX12_worth_11 : decode cX12_worth 11 = .ok (.iadd, 1) := by decide +kernel
theorem dX12_worth_12 : decode cX12_worth 12 = .ok (.iload_n 3, 1) := by decide +kernel
theorem dX12_worth_13 : decode cX12_worth 13 = .ok (.iadd, 1) := by decide +kernel
theorem dX12_worth_14 : decode cX12_worth 14 = .ok (.iaload, 1) := by decide +kernel
theorem dX12_worth_15 : decode cX12_worth 15 = .ok (.istore 5, 2) := by decide +kernel
theorem dX12_worth_17 : decode cX12_worth 17 = .ok (.aload_n 0, 1) := by decide +kernel
theorem dX12_worth_18 : decode cX12_worth 18 = .ok (.getfield 9, 3) := by decide +kernel
theorem dX12_worth_21 : decode cX12_worth 21 = .ok (.sipush 166, 3) := by decide +kernel
theorem dX12_worth_24 : decode cX12_worth 24 = .ok (.iload_n 2, 1) := by decide +kernel
theorem dX12_worth_25 : decode cX12_worth 25 = .ok (.iadd, 1) := by decide +kernel
theorem dX12_worth_26 : decode cX12_worth 26 = .ok (.iaload, 1) := by decide +kernel
theorem dX12_worth_27 : decode cX12_worth 27 = .ok (.tableswitch 130 0 5 #[37, 49, 55, 58, 80, 110], 37) := by decide +kernel
theorem dX12_worth_64 : decode cX12_worth 64 = .ok (.bipush 10, 2) := by decide +kernel
theorem dX12_worth_66 : decode cX12_worth 66 = .ok (.iload 5, 2) := by decide +kernel
theorem dX12_worth_68 : decode cX12_worth 68 = .ok (.imul, 1) := by decide +kernel
theorem dX12_worth_69 : decode cX12_worth 69 = .ok (.bipush 9, 2) := by decide +kernel
theorem dX12_worth_71 : decode cX12_worth 71 = .ok (.iadd, 1) := by decide +kernel
theorem dX12_worth_72 : decode cX12_worth 72 = .ok (.iload 4, 2) := by decide +kernel
theorem dX12_worth_74 : decode cX12_worth 74 = .ok (.isub, 1) := by decide +kernel
theorem dX12_worth_75 : decode cX12_worth 75 = .ok (.ireturn, 1) := by decide +kernel
theorem dX12_worth_76 : decode cX12_worth 76 = .ok (.bipush 9, 2) := by decide +kernel
theorem dX12_worth_78 : decode cX12_worth 78 = .ok (.iload 4, 2) := by decide +kernel
theorem dX12_worth_80 : decode cX12_worth 80 = .ok (.isub, 1) := by decide +kernel
theorem dX12_worth_81 : decode cX12_worth 81 = .ok (.ireturn, 1) := by decide +kernel
theorem dX12_worth_82 : decode cX12_worth 82 = .ok (.iload 4, 2) := by decide +kernel
theorem dX12_worth_84 : decode cX12_worth 84 = .ok (.ireturn, 1) := by decide +kernel
theorem dX12_worth_85 : decode cX12_worth 85 = .ok (.iload 5, 2) := by decide +kernel
theorem dX12_worth_87 : decode cX12_worth 87 = .ok (.aload_n 0, 1) := by decide +kernel
theorem dX12_worth_88 : decode cX12_worth 88 = .ok (.getfield 9, 3) := by decide +kernel
theorem dX12_worth_91 : decode cX12_worth 91 = .ok (.sipush 172, 3) := by decide +kernel
theorem dX12_worth_94 : decode cX12_worth 94 = .ok (.iload_n 2, 1) := by decide +kernel
theorem dX12_worth_95 : decode cX12_worth 95 = .ok (.iadd, 1) := by decide +kernel
theorem dX12_worth_96 : decode cX12_worth 96 = .ok (.iaload, 1) := by decide +kernel
theorem dX12_worth_97 : decode cX12_worth 97 = .ok (.if_icmp .lt 8, 3) := by decide +kernel
theorem dX12_worth_100 : decode cX12_worth 100 = .ok (.iload 4, 2) := by decide +kernel
theorem dX12_worth_102 : decode cX12_worth 102 = .ok (.goto 4, 3) := by decide +kernel
theorem dX12_worth_105 : decode cX12_worth 105 = .ok (.iconst (-1), 1) := by decide +kernel
theorem dX12_worth_106 : decode cX12_worth 106 = .ok (.ireturn, 1) := by decide +kernel
theorem dX12_worth_107 : decode cX12_worth 107 = .ok (.bipush 10, 2) := by decide +kernel
theorem dX12_worth_109 : decode cX12_worth 109 = .ok (.iload 5, 2) := by decide +kernel
theorem dX12_worth_111 : decode cX12_worth 111 = .ok (.imul, 1) := by decide +kernel
theorem dX12_worth_112 : decode cX12_worth 112 = .ok (.aload_n 0, 1) := by decide +kernel
theorem dX12_worth_113 : decode cX12_worth 113 = .ok (.getfield 9, 3) := by decide +kernel
theorem dX12_worth_116 : decode cX12_worth 116 = .ok (.sipush 183, 3) := by decide +kernel
theorem dX12_worth_119 : decode cX12_worth 119 = .ok (.iload_n 1, 1) := by decide +kernel
theorem dX12_worth_120 : decode cX12_worth 120 = .ok (.iadd, 1) := by decide +kernel
theorem dX12_worth_121 : decode cX12_worth 121 = .ok (.iaload, 1) := by decide +kernel
theorem dX12_worth_122 : decode cX12_worth 122 = .ok (.iconst 2, 1) := by decide +kernel
theorem dX12_worth_123 : decode cX12_worth 123 = .ok (.if_icmp .ne 7, 3) := by decide +kernel
theorem dX12_worth_126 : decode cX12_worth 126 = .ok (.iconst 1, 1) := by decide +kernel
theorem dX12_worth_127 : decode cX12_worth 127 = .ok (.goto 5, 3) := by decide +kernel
theorem dX12_worth_130 : decode cX12_worth 130 = .ok (.iload 4, 2) := by decide +kernel
theorem dX12_worth_132 : decode cX12_worth 132 = .ok (.imul, 1) := by decide +kernel
theorem dX12_worth_133 : decode cX12_worth 133 = .ok (.iload 4, 2) := by decide +kernel
theorem dX12_worth_135 : decode cX12_worth 135 = .ok (.iadd, 1) := by decide +kernel
theorem dX12_worth_136 : decode cX12_worth 136 = .ok (.ireturn, 1) := by decide +kernel
theorem dX12_worth_137 : decode cX12_worth 137 = .ok (.iload_n 3, 1) := by decide +kernel
theorem dX12_worth_138 : decode cX12_worth 138 = .ok (.aload_n 0, 1) := by decide +kernel
theorem dX12_worth_139 : decode cX12_worth 139 = .ok (.getfield 9, 3) := by decide +kernel
theorem dX12_worth_142 : decode cX12_worth 142 = .ok (.sipush 172, 3) := by decide +kernel
theorem dX12_worth_145 : decode cX12_worth 145 = .ok (.iload_n 2, 1) := by decide +kernel
theorem dX12_worth_146 : decode cX12_worth 146 = .ok (.iadd, 1) := by decide +kernel
theorem dX12_worth_147 : decode cX12_worth 147 = .ok (.iaload, 1) := by decide +kernel
theorem dX12_worth_148 : decode cX12_worth 148 = .ok (.if_icmp .ne 7, 3) := by decide +kernel
theorem dX12_worth_151 : decode cX12_worth 151 = .ok (.iconst 1, 1) := by decide +kernel
theorem dX12_worth_152 : decode cX12_worth 152 = .ok (.goto 4, 3) := by decide +kernel
theorem dX12_worth_155 : decode cX12_worth 155 = .ok (.iconst (-1), 1) := by decide +kernel
theorem dX12_worth_156 : decode cX12_worth 156 = .ok (.ireturn, 1) := by decide +kernel
theorem dX12_worth_157 : decode cX12_worth 157 = .ok (.iconst (-1), 1) := by decide +kernel
theorem dX12_worth_158 : decode cX12_worth 158 = .ok (.ireturn, 1) := by decide +kernel
theorem dX12_asked_0 : decode cX12_asked 0 = .ok (.aload_n 0, 1) := by decide +kernel
theorem dX12_asked_1 : decode cX12_asked 1 = .ok (.iload_n 1, 1) := by decide +kernel
theorem dX12_asked_2 : decode cX12_asked 2 = .ok (.iload_n 2, 1) := by decide +kernel
theorem dX12_asked_3 : decode cX12_asked 3 = .ok (.iload_n 3, 1) := by decide +kernel
theorem dX12_asked_4 : decode cX12_asked 4 = .ok (.iload 4, 2) := by decide +kernel
theorem dX12_asked_6 : decode cX12_asked 6 = .ok (.invokevirtual 162, 3) := by decide +kernel
theorem dX12_asked_9 : decode cX12_asked 9 = .ok (.istore 5, 2) := by decide +kernel
theorem dX12_asked_11 : decode cX12_asked 11 = .ok (.aload_n 0, 1) := by decide +kernel
theorem dX12_asked_12 : decode cX12_asked 12 = .ok (.iload_n 2, 1) := by decide +kernel
theorem dX12_asked_13 : decode cX12_asked 13 = .ok (.iload_n 3, 1) := by decide +kernel
theorem dX12_asked_14 : decode cX12_asked 14 = .ok (.invokevirtual 68, 3) := by decide +kernel
theorem dX12_asked_17 : decode cX12_asked 17 = .ok (.istore 6, 2) := by decide +kernel
theorem dX12_asked_19 : decode cX12_asked 19 = .ok (.bipush (-5), 2) := by decide +kernel
theorem dX12_asked_21 : decode cX12_asked 21 = .ok (.istore 7, 2) := by decide +kernel
theorem dX12_asked_23 : decode cX12_asked 23 = .ok (.iconst (-1), 1) := by decide +kernel
theorem dX12_asked_24 : decode cX12_asked 24 = .ok (.istore 8, 2) := by decide +kernel
theorem dX12_asked_26 : decode cX12_asked 26 = .ok (.iconst 1, 1) := by decide +kernel
theorem dX12_asked_27 : decode cX12_asked 27 = .ok (.istore 9, 2) := by decide +kernel
theorem dX12_asked_29 : decode cX12_asked 29 = .ok (.iload 9, 2) := by decide +kernel
theorem dX12_asked_31 : decode cX12_asked 31 = .ok (.iload 6, 2) := by decide +kernel
theorem dX12_asked_33 : decode cX12_asked 33 = .ok (.if_icmp .gt 79, 3) := by decide +kernel
theorem dX12_asked_36 : decode cX12_asked 36 = .ok (.iload_n 2, 1) := by decide +kernel
theorem dX12_asked_37 : decode cX12_asked 37 = .ok (.iload 6, 2) := by decide +kernel
theorem dX12_asked_39 : decode cX12_asked 39 = .ok (.iload 9, 2) := by decide +kernel
theorem dX12_asked_41 : decode cX12_asked 41 = .ok (.isub, 1) := by decide +kernel
theorem dX12_asked_42 : decode cX12_asked 42 = .ok (.invokestatic 52, 3) := by decide +kernel
theorem dX12_asked_45 : decode cX12_asked 45 = .ok (.istore 10, 2) := by decide +kernel
theorem dX12_asked_47 : decode cX12_asked 47 = .ok (.iload 5, 2) := by decide +kernel
theorem dX12_asked_49 : decode cX12_asked 49 = .ok (.iload 10, 2) := by decide +kernel
theorem dX12_asked_51 : decode cX12_asked 51 = .ok (.ishr, 1) := by decide +kernel
theorem dX12_asked_52 : decode cX12_asked 52 = .ok (.iconst 1, 1) := by decide +kernel
theorem dX12_asked_53 : decode cX12_asked 53 = .ok (.iand, 1) := by decide +kernel
theorem dX12_asked_54 : decode cX12_asked 54 = .ok (.iconst 1, 1) := by decide +kernel
theorem dX12_asked_55 : decode cX12_asked 55 = .ok (.if_icmp .ne 16, 3) := by decide +kernel
theorem dX12_asked_58 : decode cX12_asked 58 = .ok (.aload_n 0, 1) := by decide +kernel
theorem dX12_asked_59 : decode cX12_asked 59 = .ok (.iload_n 1, 1) := by decide +kernel
theorem dX12_asked_60 : decode cX12_asked 60 = .ok (.iload_n 3, 1) := by decide +kernel
theorem dX12_asked_61 : decode cX12_asked 61 = .ok (.iload 10, 2) := by decide +kernel
theorem dX12_asked_63 : decode cX12_asked 63 = .ok (.iload 9, 2) := by decide +kernel
theorem dX12_asked_65 : decode cX12_asked 65 = .ok (.invokevirtual 166, 3) := by decide +kernel
theorem dX12_asked_68 : decode cX12_asked 68 = .ok (.goto 4, 3) := by decide +kernel
theorem dX12_asked_71 : decode cX12_asked 71 = .ok (.iconst (-1), 1) := by decide +kernel
theorem dX12_asked_72 : decode cX12_asked 72 = .ok (.istore 11, 2) := by decide +kernel
theorem dX12_asked_74 : decode cX12_asked 74 = .ok (.iload 11, 2) := by decide +kernel
theorem dX12_asked_76 : decode cX12_asked 76 = .ok (.iload 8, 2) := by decide +kernel
theorem dX12_asked_78 : decode cX12_asked 78 = .ok (.if_icmp .le 8, 3) := by decide +kernel
theorem dX12_asked_81 : decode cX12_asked 81 = .ok (.iload 10, 2) := by decide +kernel
theorem dX12_asked_83 : decode cX12_asked 83 = .ok (.goto 5, 3) := by decide +kernel
theorem dX12_asked_86 : decode cX12_asked 86 = .ok (.iload 7, 2) := by decide +kernel
theorem dX12_asked_88 : decode cX12_asked 88 = .ok (.istore 7, 2) := by decide +kernel
theorem dX12_asked_90 : decode cX12_asked 90 = .ok (.iload 11, 2) := by decide +kernel
theorem dX12_asked_92 : decode cX12_asked 92 = .ok (.iload 8, 2) := by decide +kernel
theorem dX12_asked_94 : decode cX12_asked 94 = .ok (.if_icmp .le 8, 3) := by decide +kernel
theorem dX12_asked_97 : decode cX12_asked 97 = .ok (.iload 11, 2) := by decide +kernel
theorem dX12_asked_99 : decode cX12_asked 99 = .ok (.goto 5, 3) := by decide +kernel
theorem dX12_asked_102 : decode cX12_asked 102 = .ok (.iload 8, 2) := by decide +kernel
theorem dX12_asked_104 : decode cX12_asked 104 = .ok (.istore 8, 2) := by decide +kernel
theorem dX12_asked_106 : decode cX12_asked 106 = .ok (.iinc 9 1, 3) := by decide +kernel
theorem dX12_asked_109 : decode cX12_asked 109 = .ok (.goto (-80), 3) := by decide +kernel
theorem dX12_asked_112 : decode cX12_asked 112 = .ok (.iload 7, 2) := by decide +kernel
theorem dX12_asked_114 : decode cX12_asked 114 = .ok (.ireturn, 1) := by decide +kernel
theorem dX12_asks_0 : decode cX12_asks 0 = .ok (.aload_n 0, 1) := by decide +kernel
theorem dX12_asks_1 : decode cX12_asks 1 = .ok (.iload_n 1, 1) := by decide +kernel
theorem dX12_asks_2 : decode cX12_asks 2 = .ok (.invokevirtual 156, 3) := by decide +kernel
theorem dX12_asks_5 : decode cX12_asks 5 = .ok (.ifCond .eq 11, 3) := by decide +kernel
theorem dX12_asks_8 : decode cX12_asks 8 = .ok (.aload_n 0, 1) := by decide +kernel
theorem dX12_asks_9 : decode cX12_asks 9 = .ok (.iload_n 2, 1) := by decide +kernel
theorem dX12_asks_10 : decode cX12_asks 10 = .ok (.invokevirtual 60, 3) := by decide +kernel
theorem dX12_asks_13 : decode cX12_asks 13 = .ok (.ifCond .ne 5, 3) := by decide +kernel
theorem dX12_asks_16 : decode cX12_asks 16 = .ok (.iconst (-1), 1) := by decide +kernel
theorem dX12_asks_17 : decode cX12_asks 17 = .ok (.ireturn, 1) := by decide +kernel
theorem dX12_asks_18 : decode cX12_asks 18 = .ok (.iload_n 3, 1) := by decide +kernel
theorem dX12_asks_19 : decode cX12_asks 19 = .ok (.invokestatic 159, 3) := by decide +kernel
theorem dX12_asks_22 : decode cX12_asks 22 = .ok (.ifCond .eq 20, 3) := by decide +kernel
theorem dX12_asks_25 : decode cX12_asks 25 = .ok (.aload_n 0, 1) := by decide +kernel
theorem dX12_asks_26 : decode cX12_asks 26 = .ok (.iload_n 1, 1) := by decide +kernel
theorem dX12_asks_27 : decode cX12_asks 27 = .ok (.aload_n 0, 1) := by decide +kernel
theorem dX12_asks_28 : decode cX12_asks 28 = .ok (.getfield 9, 3) := by decide +kernel
theorem dX12_asks_31 : decode cX12_asks 31 = .ok (.bipush 6, 2) := by decide +kernel
theorem dX12_asks_33 : decode cX12_asks 33 = .ok (.iaload, 1) := by decide +kernel
theorem dX12_asks_34 : decode cX12_asks 34 = .ok (.iload_n 2, 1) := by decide +kernel
theorem dX12_asks_35 : decode cX12_asks 35 = .ok (.iload_n 3, 1) := by decide +kernel
theorem dX12_asks_36 : decode cX12_asks 36 = .ok (.invokevirtual 169, 3) := by decide +kernel
theorem dX12_asks_39 : decode cX12_asks 39 = .ok (.goto 5, 3) := by decide +kernel
theorem dX12_asks_42 : decode cX12_asks 42 = .ok (.bipush (-2), 2) := by decide +kernel
theorem dX12_asks_44 : decode cX12_asks 44 = .ok (.ireturn, 1) := by decide +kernel
theorem dX12_won_0 : decode cX12_won 0 = .ok (.aload_n 0, 1) := by decide +kernel
theorem dX12_won_1 : decode cX12_won 1 = .ok (.iload_n 2, 1) := by decide +kernel
theorem dX12_won_2 : decode cX12_won 2 = .ok (.iload_n 3, 1) := by decide +kernel
theorem dX12_won_3 : decode cX12_won 3 = .ok (.invokevirtual 68, 3) := by decide +kernel
theorem dX12_won_6 : decode cX12_won 6 = .ok (.istore 5, 2) := by decide +kernel
theorem dX12_won_8 : decode cX12_won 8 = .ok (.aload_n 0, 1) := by decide +kernel
theorem dX12_won_9 : decode cX12_won 9 = .ok (.iload_n 2, 1) := by decide +kernel
theorem dX12_won_10 : decode cX12_won 10 = .ok (.iload 4, 2) := by decide +kernel
theorem dX12_won_12 : decode cX12_won 12 = .ok (.invokevirtual 68, 3) := by decide +kernel
theorem dX12_won_15 : decode cX12_won 15 = .ok (.istore 6, 2) := by decide +kernel
theorem dX12_won_17 : decode cX12_won 17 = .ok (.aload_n 0, 1) := by decide +kernel
theorem dX12_won_18 : decode cX12_won 18 = .ok (.getfield 9, 3) := by decide +kernel
theorem dX12_won_21 : decode cX12_won 21 = .ok (.sipush 183, 3) := by decide +kernel
theorem dX12_won_24 : decode cX12_won 24 = .ok (.iload_n 1, 1) := by decide +kernel
theorem dX12_won_25 : decode cX12_won 25 = .ok (.iadd, 1) := by decide +kernel
theorem dX12_won_26 : decode cX12_won 26 = .ok (.iaload, 1) := by decide +kernel
theorem dX12_won_27 : decode cX12_won 27 = .ok (.iconst 1, 1) := by decide +kernel
theorem dX12_won_28 : decode cX12_won 28 = .ok (.if_icmp .ne 40, 3) := by decide +kernel
theorem dX12_won_31 : decode cX12_won 31 = .ok (.iload_n 2, 1) := by decide +kernel
theorem dX12_won_32 : decode cX12_won 32 = .ok (.bipush 7, 2) := by decide +kernel
theorem dX12_won_34 : decode cX12_won 34 = .ok (.iconst 3, 1) := by decide +kernel
theorem dX12_won_35 : decode cX12_won 35 = .ok (.iload 5, 2) := by decide +kernel
theorem dX12_won_37 : decode cX12_won 37 = .ok (.imul, 1) := by decide +kernel
theorem dX12_won_38 : decode cX12_won 38 = .ok (.ishl, 1) := by decide +kernel
theorem dX12_won_39 : decode cX12_won 39 = .ok (.iconst (-1), 1) := by decide +kernel
theorem dX12_won_40 : decode cX12_won 40 = .ok (.ixor, 1) := by decide +kernel
theorem dX12_won_41 : decode cX12_won 41 = .ok (.iand, 1) := by decide +kernel
theorem dX12_won_42 : decode cX12_won 42 = .ok (.bipush 7, 2) := by decide +kernel
theorem dX12_won_44 : decode cX12_won 44 = .ok (.iconst 3, 1) := by decide +kernel
theorem dX12_won_45 : decode cX12_won 45 = .ok (.iload 6, 2) := by decide +kernel
theorem dX12_won_47 : decode cX12_won 47 = .ok (.imul, 1) := by decide +kernel
theorem dX12_won_48 : decode cX12_won 48 = .ok (.ishl, 1) := by decide +kernel
theorem dX12_won_49 : decode cX12_won 49 = .ok (.iconst (-1), 1) := by decide +kernel
theorem dX12_won_50 : decode cX12_won 50 = .ok (.ixor, 1) := by decide +kernel
theorem dX12_won_51 : decode cX12_won 51 = .ok (.iand, 1) := by decide +kernel
theorem dX12_won_52 : decode cX12_won 52 = .ok (.iload 4, 2) := by decide +kernel
theorem dX12_won_54 : decode cX12_won 54 = .ok (.iconst 3, 1) := by decide +kernel
theorem dX12_won_55 : decode cX12_won 55 = .ok (.iload 5, 2) := by decide +kernel
theorem dX12_won_57 : decode cX12_won 57 = .ok (.imul, 1) := by decide +kernel
theorem dX12_won_58 : decode cX12_won 58 = .ok (.ishl, 1) := by decide +kernel
theorem dX12_won_59 : decode cX12_won 59 = .ok (.ior, 1) := by decide +kernel
theorem dX12_won_60 : decode cX12_won 60 = .ok (.iload_n 3, 1) := by decide +kernel
theorem dX12_won_61 : decode cX12_won 61 = .ok (.iconst 3, 1) := by decide +kernel
theorem dX12_won_62 : decode cX12_won 62 = .ok (.iload 6, 2) := by decide +kernel
theorem dX12_won_64 : decode cX12_won 64 = .ok (.imul, 1) := by decide +kernel
theorem dX12_won_65 : decode cX12_won 65 = .ok (.ishl, 1) := by decide +kernel
theorem dX12_won_66 : decode cX12_won 66 = .ok (.ior, 1) := by decide +kernel
theorem dX12_won_67 : decode cX12_won 67 = .ok (.ireturn, 1) := by decide +kernel
theorem dX12_won_68 : decode cX12_won 68 = .ok (.aload_n 0, 1) := by decide +kernel
theorem dX12_won_69 : decode cX12_won 69 = .ok (.iload_n 2, 1) := by decide +kernel
theorem dX12_won_70 : decode cX12_won 70 = .ok (.iload_n 3, 1) := by decide +kernel
theorem dX12_won_71 : decode cX12_won 71 = .ok (.aload_n 0, 1) := by decide +kernel
theorem dX12_won_72 : decode cX12_won 72 = .ok (.getfield 9, 3) := by decide +kernel
theorem dX12_won_75 : decode cX12_won 75 = .ok (.sipush 183, 3) := by decide +kernel
theorem dX12_won_78 : decode cX12_won 78 = .ok (.iload_n 1, 1) := by decide +kernel
theorem dX12_won_79 : decode cX12_won 79 = .ok (.iadd, 1) := by decide +kernel
theorem dX12_won_80 : decode cX12_won 80 = .ok (.iaload, 1) := by decide +kernel
theorem dX12_won_81 : decode cX12_won 81 = .ok (.iconst 2, 1) := by decide +kernel
theorem dX12_won_82 : decode cX12_won 82 = .ok (.if_icmp .ne 10, 3) := by decide +kernel
theorem dX12_won_85 : decode cX12_won 85 = .ok (.iload 5, 2) := by decide +kernel
theorem dX12_won_87 : decode cX12_won 87 = .ok (.iconst 1, 1) := by decide +kernel
theorem dX12_won_88 : decode cX12_won 88 = .ok (.isub, 1) := by decide +kernel
theorem dX12_won_89 : decode cX12_won 89 = .ok (.goto 5, 3) := by decide +kernel
theorem dX12_won_92 : decode cX12_won 92 = .ok (.iload 6, 2) := by decide +kernel
theorem dX12_won_94 : decode cX12_won 94 = .ok (.invokevirtual 71, 3) := by decide +kernel
theorem dX12_won_97 : decode cX12_won 97 = .ok (.ireturn, 1) := by decide +kernel
theorem dX12_match_0 : decode cX12_match 0 = .ok (.aload_n 0, 1) := by decide +kernel
theorem dX12_match_1 : decode cX12_match 1 = .ok (.iload_n 1, 1) := by decide +kernel
theorem dX12_match_2 : decode cX12_match 2 = .ok (.invokevirtual 156, 3) := by decide +kernel
theorem dX12_match_5 : decode cX12_match 5 = .ok (.ifCond .eq 19, 3) := by decide +kernel
theorem dX12_match_8 : decode cX12_match 8 = .ok (.aload_n 0, 1) := by decide +kernel
theorem dX12_match_9 : decode cX12_match 9 = .ok (.iload_n 2, 1) := by decide +kernel
theorem dX12_match_10 : decode cX12_match 10 = .ok (.invokevirtual 60, 3) := by decide +kernel
theorem dX12_match_13 : decode cX12_match 13 = .ok (.ifCond .eq 11, 3) := by decide +kernel
theorem dX12_match_16 : decode cX12_match 16 = .ok (.aload_n 0, 1) := by decide +kernel
theorem dX12_match_17 : decode cX12_match 17 = .ok (.iload_n 3, 1) := by decide +kernel
theorem dX12_match_18 : decode cX12_match 18 = .ok (.invokevirtual 60, 3) := by decide +kernel
theorem dX12_match_21 : decode cX12_match 21 = .ok (.ifCond .ne 5, 3) := by decide +kernel
theorem dX12_match_24 : decode cX12_match 24 = .ok (.iconst (-1), 1) := by decide +kernel
theorem dX12_match_25 : decode cX12_match 25 = .ok (.ireturn, 1) := by decide +kernel
theorem dX12_match_26 : decode cX12_match 26 = .ok (.iload_n 2, 1) := by decide +kernel
theorem dX12_match_27 : decode cX12_match 27 = .ok (.iload_n 3, 1) := by decide +kernel
theorem dX12_match_28 : decode cX12_match 28 = .ok (.if_icmp .ne 6, 3) := by decide +kernel
theorem dX12_match_31 : decode cX12_match 31 = .ok (.bipush (-2), 2) := by decide +kernel
theorem dX12_match_33 : decode cX12_match 33 = .ok (.ireturn, 1) := by decide +kernel
theorem dX12_match_34 : decode cX12_match 34 = .ok (.aload_n 0, 1) := by decide +kernel
theorem dX12_match_35 : decode cX12_match 35 = .ok (.iload_n 1, 1) := by decide +kernel
theorem dX12_match_36 : decode cX12_match 36 = .ok (.aload_n 0, 1) := by decide +kernel
theorem dX12_match_37 : decode cX12_match 37 = .ok (.getfield 9, 3) := by decide +kernel
theorem dX12_match_40 : decode cX12_match 40 = .ok (.bipush 6, 2) := by decide +kernel
theorem dX12_match_42 : decode cX12_match 42 = .ok (.iaload, 1) := by decide +kernel
theorem dX12_match_43 : decode cX12_match 43 = .ok (.iload_n 2, 1) := by decide +kernel
theorem dX12_match_44 : decode cX12_match 44 = .ok (.aload_n 0, 1) := by decide +kernel
theorem dX12_match_45 : decode cX12_match 45 = .ok (.getfield 9, 3) := by decide +kernel
theorem dX12_match_48 : decode cX12_match 48 = .ok (.iconst 2, 1) := by decide +kernel
theorem dX12_match_49 : decode cX12_match 49 = .ok (.iaload, 1) := by decide +kernel
theorem dX12_match_50 : decode cX12_match 50 = .ok (.invokevirtual 162, 3) := by decide +kernel
theorem dX12_match_53 : decode cX12_match 53 = .ok (.iload_n 3, 1) := by decide +kernel
theorem dX12_match_54 : decode cX12_match 54 = .ok (.ishr, 1) := by decide +kernel
theorem dX12_match_55 : decode cX12_match 55 = .ok (.iconst 1, 1) := by decide +kernel
theorem dX12_match_56 : decode cX12_match 56 = .ok (.iand, 1) := by decide +kernel
theorem dX12_match_57 : decode cX12_match 57 = .ok (.ifCond .ne 6, 3) := by decide +kernel
theorem dX12_match_60 : decode cX12_match 60 = .ok (.bipush (-3), 2) := by decide +kernel
theorem dX12_match_62 : decode cX12_match 62 = .ok (.ireturn, 1) := by decide +kernel
theorem dX12_match_63 : decode cX12_match 63 = .ok (.aload_n 0, 1) := by decide +kernel
theorem dX12_match_64 : decode cX12_match 64 = .ok (.getfield 9, 3) := by decide +kernel
theorem dX12_match_67 : decode cX12_match 67 = .ok (.bipush 6, 2) := by decide +kernel
theorem dX12_match_69 : decode cX12_match 69 = .ok (.iload 4, 2) := by decide +kernel
theorem dX12_match_71 : decode cX12_match 71 = .ok (.ifCond .eq 20, 3) := by decide +kernel
theorem dX12_match_74 : decode cX12_match 74 = .ok (.aload_n 0, 1) := by decide +kernel
theorem dX12_match_75 : decode cX12_match 75 = .ok (.iload_n 1, 1) := by decide +kernel
theorem dX12_match_76 : decode cX12_match 76 = .ok (.aload_n 0, 1) := by decide +kernel
theorem dX12_match_77 : decode cX12_match 77 = .ok (.getfield 9, 3) := by decide +kernel
theorem dX12_match_80 : decode cX12_match 80 = .ok (.bipush 6, 2) := by decide +kernel
theorem dX12_match_82 : decode cX12_match 82 = .ok (.iaload, 1) := by decide +kernel
theorem dX12_match_83 : decode cX12_match 83 = .ok (.iload_n 2, 1) := by decide +kernel
theorem dX12_match_84 : decode cX12_match 84 = .ok (.iload_n 3, 1) := by decide +kernel
theorem dX12_match_85 : decode cX12_match 85 = .ok (.invokevirtual 172, 3) := by decide +kernel
theorem dX12_match_88 : decode cX12_match 88 = .ok (.goto 10, 3) := by decide +kernel
theorem dX12_match_91 : decode cX12_match 91 = .ok (.aload_n 0, 1) := by decide +kernel
theorem dX12_match_92 : decode cX12_match 92 = .ok (.getfield 9, 3) := by decide +kernel
theorem dX12_match_95 : decode cX12_match 95 = .ok (.bipush 6, 2) := by decide +kernel
theorem dX12_match_97 : decode cX12_match 97 = .ok (.iaload, 1) := by decide +kernel
theorem dX12_match_98 : decode cX12_match 98 = .ok (.iastore, 1) := by decide +kernel
theorem dX12_match_99 : decode cX12_match 99 = .ok (.aload_n 0, 1) := by decide +kernel
theorem dX12_match_100 : decode cX12_match 100 = .ok (.aload_n 0, 1) := by decide +kernel
theorem dX12_match_101 : decode cX12_match 101 = .ok (.getfield 9, 3) := by decide +kernel
theorem dX12_match_104 : decode cX12_match 104 = .ok (.bipush 6, 2) := by decide +kernel
theorem dX12_match_106 : decode cX12_match 106 = .ok (.iaload, 1) := by decide +kernel
theorem dX12_match_107 : decode cX12_match 107 = .ok (.iload_n 2, 1) := by decide +kernel
theorem dX12_match_108 : decode cX12_match 108 = .ok (.invokevirtual 68, 3) := by decide +kernel
theorem dX12_match_111 : decode cX12_match 111 = .ok (.ireturn, 1) := by decide +kernel
theorem dX12_pass_0 : decode cX12_pass 0 = .ok (.iload_n 1, 1) := by decide +kernel
theorem dX12_pass_1 : decode cX12_pass 1 = .ok (.iconst 1, 1) := by decide +kernel
theorem dX12_pass_2 : decode cX12_pass 2 = .ok (.bipush 99, 2) := by decide +kernel
theorem dX12_pass_4 : decode cX12_pass 4 = .ok (.invokestatic 48, 3) := by decide +kernel
theorem dX12_pass_7 : decode cX12_pass 7 = .ok (.ifCond .eq 17, 3) := by decide +kernel
theorem dX12_pass_10 : decode cX12_pass 10 = .ok (.aload_n 0, 1) := by decide +kernel
theorem dX12_pass_11 : decode cX12_pass 11 = .ok (.getfield 9, 3) := by decide +kernel
theorem dX12_pass_14 : decode cX12_pass 14 = .ok (.iconst 2, 1) := by decide +kernel
theorem dX12_pass_15 : decode cX12_pass 15 = .ok (.iaload, 1) := by decide +kernel
theorem dX12_pass_16 : decode cX12_pass 16 = .ok (.iload_n 1, 1) := by decide +kernel
theorem dX12_pass_17 : decode cX12_pass 17 = .ok (.iadd, 1) := by decide +kernel
theorem dX12_pass_18 : decode cX12_pass 18 = .ok (.sipush 999, 3) := by decide +kernel
theorem dX12_pass_21 : decode cX12_pass 21 = .ok (.if_icmp .le 6, 3) := by decide +kernel
theorem dX12_pass_24 : decode cX12_pass 24 = .ok (.bipush (-2), 2) := by decide +kernel
theorem dX12_pass_26 : decode cX12_pass 26 = .ok (.ireturn, 1) := by decide +kernel
theorem dX12_pass_27 : decode cX12_pass 27 = .ok (.aload_n 0, 1) := by decide +kernel
theorem dX12_pass_28 : decode cX12_pass 28 = .ok (.getfield 9, 3) := by decide +kernel
theorem dX12_pass_31 : decode cX12_pass 31 = .ok (.iconst 2, 1) := by decide +kernel
theorem dX12_pass_32 : decode cX12_pass 32 = .ok (.dup2, 1) := by decide +kernel
theorem dX12_pass_33 : decode cX12_pass 33 = .ok (.iaload, 1) := by decide +kernel
theorem dX12_pass_34 : decode cX12_pass 34 = .ok (.iload_n 1, 1) := by decide +kernel
theorem dX12_pass_35 : decode cX12_pass 35 = .ok (.iadd, 1) := by decide +kernel
theorem dX12_pass_36 : decode cX12_pass 36 = .ok (.iastore, 1) := by decide +kernel
theorem dX12_pass_37 : decode cX12_pass 37 = .ok (.aload_n 0, 1) := by decide +kernel
theorem dX12_pass_38 : decode cX12_pass 38 = .ok (.getfield 9, 3) := by decide +kernel
theorem dX12_pass_41 : decode cX12_pass 41 = .ok (.iconst 2, 1) := by decide +kernel
theorem dX12_pass_42 : decode cX12_pass 42 = .ok (.iaload, 1) := by decide +kernel
theorem dX12_pass_43 : decode cX12_pass 43 = .ok (.ireturn, 1) := by decide +kernel
theorem dX12_gathers_0 : decode cX12_gathers 0 = .ok (.iconst 0, 1) := by decide +kernel
theorem dX12_gathers_1 : decode cX12_gathers 1 = .ok (.istore 4, 2) := by decide +kernel
theorem dX12_gathers_3 : decode cX12_gathers 3 = .ok (.iload 4, 2) := by decide +kernel
theorem dX12_gathers_5 : decode cX12_gathers 5 = .ok (.aload_n 0, 1) := by decide +kernel
theorem dX12_gathers_6 : decode cX12_gathers 6 = .ok (.getfield 175, 3) := by decide +kernel
theorem dX12_gathers_9 : decode cX12_gathers 9 = .ok (.if_icmp .ge 20, 3) := by decide +kernel
theorem dX12_gathers_12 : decode cX12_gathers 12 = .ok (.aload_n 0, 1) := by decide +kernel
theorem dX12_gathers_13 : decode cX12_gathers 13 = .ok (.getfield 32, 3) := by decide +kernel
theorem dX12_gathers_16 : decode cX12_gathers 16 = .ok (.iload 4, 2) := by decide +kernel
theorem dX12_gathers_18 : decode cX12_gathers 18 = .ok (.iaload, 1) := by decide +kernel
theorem dX12_gathers_19 : decode cX12_gathers 19 = .ok (.iload_n 1, 1) := by decide +kernel
theorem dX12_gathers_20 : decode cX12_gathers 20 = .ok (.if_icmp .eq 9, 3) := by decide +kernel
theorem dX12_gathers_23 : decode cX12_gathers 23 = .ok (.iinc 4 1, 3) := by decide +kernel
theorem dX12_gathers_26 : decode cX12_gathers 26 = .ok (.goto (-23), 3) := by decide +kernel
theorem dX12_gathers_29 : decode cX12_gathers 29 = .ok (.iload 4, 2) := by decide +kernel
theorem dX12_gathers_31 : decode cX12_gathers 31 = .ok (.aload_n 0, 1) := by decide +kernel
theorem dX12_gathers_32 : decode cX12_gathers 32 = .ok (.getfield 175, 3) := by decide +kernel
theorem dX12_gathers_35 : decode cX12_gathers 35 = .ok (.if_icmp .ne 29, 3) := by decide +kernel
theorem dX12_gathers_38 : decode cX12_gathers 38 = .ok (.aload_n 0, 1) := by decide +kernel
theorem dX12_gathers_39 : decode cX12_gathers 39 = .ok (.getfield 32, 3) := by decide +kernel
theorem dX12_gathers_42 : decode cX12_gathers 42 = .ok (.iload 4, 2) := by decide +kernel
theorem dX12_gathers_44 : decode cX12_gathers 44 = .ok (.iload_n 1, 1) := by decide +kernel
theorem dX12_gathers_45 : decode cX12_gathers 45 = .ok (.iastore, 1) := by decide +kernel
theorem dX12_gathers_46 : decode cX12_gathers 46 = .ok (.aload_n 0, 1) := by decide +kernel
theorem dX12_gathers_47 : decode cX12_gathers 47 = .ok (.getfield 39, 3) := by decide +kernel
theorem dX12_gathers_50 : decode cX12_gathers 50 = .ok (.iload 4, 2) := by decide +kernel
theorem dX12_gathers_52 : decode cX12_gathers 52 = .ok (.lconst 0, 1) := by decide +kernel
theorem dX12_gathers_53 : decode cX12_gathers 53 = .ok (.lastore, 1) := by decide +kernel
theorem dX12_gathers_54 : decode cX12_gathers 54 = .ok (.aload_n 0, 1) := by decide +kernel
theorem dX12_gathers_55 : decode cX12_gathers 55 = .ok (.dup, 1) := by decide +kernel
theorem dX12_gathers_56 : decode cX12_gathers 56 = .ok (.getfield 175, 3) := by decide +kernel
theorem dX12_gathers_59 : decode cX12_gathers 59 = .ok (.iconst 1, 1) := by decide +kernel
theorem dX12_gathers_60 : decode cX12_gathers 60 = .ok (.iadd, 1) := by decide +kernel
theorem dX12_gathers_61 : decode cX12_gathers 61 = .ok (.putfield 175, 3) := by decide +kernel
theorem dX12_gathers_64 : decode cX12_gathers 64 = .ok (.aload_n 0, 1) := by decide +kernel
theorem dX12_gathers_65 : decode cX12_gathers 65 = .ok (.getfield 39, 3) := by decide +kernel
theorem dX12_gathers_68 : decode cX12_gathers 68 = .ok (.iload 4, 2) := by decide +kernel
theorem dX12_gathers_70 : decode cX12_gathers 70 = .ok (.dup2, 1) := by decide +kernel
theorem dX12_gathers_71 : decode cX12_gathers 71 = .ok (.laload, 1) := by decide +kernel
theorem dX12_gathers_72 : decode cX12_gathers 72 = .ok (.lload_n 2, 1) := by decide +kernel
theorem dX12_gathers_73 : decode cX12_gathers 73 = .ok (.ladd, 1) := by decide +kernel
theorem dX12_gathers_74 : decode cX12_gathers 74 = .ok (.lastore, 1) := by decide +kernel
theorem dX12_gathers_75 : decode cX12_gathers 75 = .ok (.return_, 1) := by decide +kernel
theorem dX12_dayGoes_0 : decode cX12_dayGoes 0 = .ok (.aload_n 0, 1) := by decide +kernel
theorem dX12_dayGoes_1 : decode cX12_dayGoes 1 = .ok (.iconst 0, 1) := by decide +kernel
theorem dX12_dayGoes_2 : decode cX12_dayGoes 2 = .ok (.putfield 175, 3) := by decide +kernel
theorem dX12_dayGoes_5 : decode cX12_dayGoes 5 = .ok (.iconst 0, 1) := by decide +kernel
theorem dX12_dayGoes_6 : decode cX12_dayGoes 6 = .ok (.istore 4, 2) := by decide +kernel
theorem dX12_dayGoes_8 : decode cX12_dayGoes 8 = .ok (.iload 4, 2) := by decide +kernel
theorem dX12_dayGoes_10 : decode cX12_dayGoes 10 = .ok (.aload_n 0, 1) := by decide +kernel
theorem dX12_dayGoes_11 : decode cX12_dayGoes 11 = .ok (.getfield 178, 3) := by decide +kernel
theorem dX12_dayGoes_14 : decode cX12_dayGoes 14 = .ok (.if_icmp .ge 163, 3) := by decide +kernel
theorem dX12_dayGoes_17 : decode cX12_dayGoes 17 = .ok (.aload_n 0, 1) := by decide +kernel
theorem dX12_dayGoes_18 : decode cX12_dayGoes 18 = .ok (.getfield 29, 3) := by decide +kernel
theorem dX12_dayGoes_21 : decode cX12_dayGoes 21 = .ok (.iload 4, 2) := by decide +kernel
theorem dX12_dayGoes_23 : decode cX12_dayGoes 23 = .ok (.iaload, 1) := by decide +kernel
theorem dX12_dayGoes_24 : decode cX12_dayGoes 24 = .ok (.aload_n 0, 1) := by decide +kernel
theorem dX12_dayGoes_25 : decode cX12_dayGoes 25 = .ok (.getfield 9, 3) := by decide +kernel
theorem dX12_dayGoes_28 : decode cX12_dayGoes 28 = .ok (.iconst 0, 1) := by decide +kernel
theorem dX12_dayGoes_29 : decode cX12_dayGoes 29 = .ok (.iaload, 1) := by decide +kernel
theorem dX12_dayGoes_30 : decode cX12_dayGoes 30 = .ok (.iconst 1, 1) := by decide +kernel
theorem dX12_dayGoes_31 : decode cX12_dayGoes 31 = .ok (.isub, 1) := by decide +kernel
theorem dX12_dayGoes_32 : decode cX12_dayGoes 32 = .ok (.iload_n 2, 1) := by decide +kernel
theorem dX12_dayGoes_33 : decode cX12_dayGoes 33 = .ok (.aload_n 0, 1) := by decide +kernel
theorem dX12_dayGoes_34 : decode cX12_dayGoes 34 = .ok (.getfield 9, 3) := by decide +kernel
theorem dX12_dayGoes_37 : decode cX12_dayGoes 37 = .ok (.iconst 0, 1) := by decide +kernel
theorem dX12_dayGoes_38 : decode cX12_dayGoes 38 = .ok (.iaload, 1) := by decide +kernel
theorem dX12_dayGoes_39 : decode cX12_dayGoes 39 = .ok (.irem, 1) := by decide +kernel
theorem dX12_dayGoes_40 : decode cX12_dayGoes 40 = .ok (.isub, 1) := by decide +kernel
theorem dX12_dayGoes_41 : decode cX12_dayGoes 41 = .ok (.invokestatic 52, 3) := by decide +kernel
theorem dX12_dayGoes_44 : decode cX12_dayGoes 44 = .ok (.istore 5, 2) := by decide +kernel
theorem dX12_dayGoes_46 : decode cX12_dayGoes 46 = .ok (.iload_n 3, 1) := by decide +kernel
theorem dX12_dayGoes_47 : decode cX12_dayGoes 47 = .ok (.bipush (-7), 2) := by decide +kernel
theorem dX12_dayGoes_49 : decode cX12_dayGoes 49 = .ok (.if_icmp .ne 21, 3) := by decide +kernel
theorem dX12_dayGoes_52 : decode cX12_dayGoes 52 = .ok (.aload_n 0, 1) := by decide +kernel
theorem dX12_dayGoes_53 : decode cX12_dayGoes 53 = .ok (.iload_n 1, 1) := by decide +kernel
theorem dX12_dayGoes_54 : decode cX12_dayGoes 54 = .ok (.aload_n 0, 1) := by decide +kernel
theorem dX12_dayGoes_55 : decode cX12_dayGoes 55 = .ok (.getfield 29, 3) := by decide +kernel
theorem dX12_dayGoes_58 : decode cX12_dayGoes 58 = .ok (.iload 4, 2) := by decide +kernel
theorem dX12_dayGoes_60 : decode cX12_dayGoes 60 = .ok (.iaload, 1) := by decide +kernel
theorem dX12_dayGoes_61 : decode cX12_dayGoes 61 = .ok (.iload 5, 2) := by decide +kernel
theorem dX12_dayGoes_63 : decode cX12_dayGoes 63 = .ok (.iload_n 2, 1) := by decide +kernel
theorem dX12_dayGoes_64 : decode cX12_dayGoes 64 = .ok (.invokevirtual 169, 3) := by decide +kernel
theorem dX12_dayGoes_67 : decode cX12_dayGoes 67 = .ok (.goto 4, 3) := by decide +kernel
theorem dX12_dayGoes_70 : decode cX12_dayGoes 70 = .ok (.iload_n 3, 1) := by decide +kernel
theorem dX12_dayGoes_71 : decode cX12_dayGoes 71 = .ok (.istore 6, 2) := by decide +kernel
theorem dX12_dayGoes_73 : decode cX12_dayGoes 73 = .ok (.iload 6, 2) := by decide +kernel
theorem dX12_dayGoes_75 : decode cX12_dayGoes 75 = .ok (.bipush (-5), 2) := by decide +kernel
theorem dX12_dayGoes_77 : decode cX12_dayGoes 77 = .ok (.if_icmp .ne 7, 3) := by decide +kernel
theorem dX12_dayGoes_80 : decode cX12_dayGoes 80 = .ok (.iconst 0, 1) := by decide +kernel
theorem dX12_dayGoes_81 : decode cX12_dayGoes 81 = .ok (.goto 20, 3) := by decide +kernel
theorem dX12_dayGoes_84 : decode cX12_dayGoes 84 = .ok (.aload_n 0, 1) := by decide +kernel
theorem dX12_dayGoes_85 : decode cX12_dayGoes 85 = .ok (.getfield 9, 3) := by decide +kernel
theorem dX12_dayGoes_88 : decode cX12_dayGoes 88 = .ok (.sipush 130, 3) := by decide +kernel
theorem dX12_dayGoes_91 : decode cX12_dayGoes 91 = .ok (.bipush 6, 2) := by decide +kernel
theorem dX12_dayGoes_93 : decode cX12_dayGoes 93 = .ok (.iload 5, 2) := by decide +kernel
theorem dX12_dayGoes_95 : decode cX12_dayGoes 95 = .ok (.imul, 1) := by decide +kernel
theorem dX12_dayGoes_96 : decode cX12_dayGoes 96 = .ok (.iadd, 1) := by decide +kernel
theorem dX12_dayGoes_97 : decode cX12_dayGoes 97 = .ok (.iload 6, 2) := by decide +kernel
theorem dX12_dayGoes_99 : decode cX12_dayGoes 99 = .ok (.iadd, 1) := by decide +kernel
theorem dX12_dayGoes_100 : decode cX12_dayGoes 100 = .ok (.iaload, 1) := by decide +kernel
theorem dX12_dayGoes_101 : decode cX12_dayGoes 101 = .ok (.istore 7, 2) := by decide +kernel
theorem dX12_dayGoes_103 : decode cX12_dayGoes 103 = .ok (.iload 7, 2) := by decide +kernel
theorem dX12_dayGoes_105 : decode cX12_dayGoes 105 = .ok (.ifCond .le 34, 3) := by decide +kernel
theorem dX12_dayGoes_108 : decode cX12_dayGoes 108 = .ok (.aload_n 0, 1) := by decide +kernel
theorem dX12_dayGoes_109 : decode cX12_dayGoes 109 = .ok (.aload_n 0, 1) := by decide +kernel
theorem dX12_dayGoes_110 : decode cX12_dayGoes 110 = .ok (.iload_n 1, 1) := by decide +kernel
theorem dX12_dayGoes_111 : decode cX12_dayGoes 111 = .ok (.aload_n 0, 1) := by decide +kernel
theorem dX12_dayGoes_112 : decode cX12_dayGoes 112 = .ok (.getfield 29, 3) := by decide +kernel
theorem dX12_dayGoes_115 : decode cX12_dayGoes 115 = .ok (.iload 4, 2) := by decide +kernel
theorem dX12_dayGoes_117 : decode cX12_dayGoes 117 = .ok (.iaload, 1) := by decide +kernel
theorem dX12_dayGoes_118 : decode cX12_dayGoes 118 = .ok (.iload 5, 2) := by decide +kernel
theorem dX12_dayGoes_120 : decode cX12_dayGoes 120 = .ok (.iload 6, 2) := by decide +kernel
theorem dX12_dayGoes_122 : decode cX12_dayGoes 122 = .ok (.invokevirtual 172, 3) := by decide +kernel
theorem dX12_dayGoes_125 : decode cX12_dayGoes 125 = .ok (.aload_n 0, 1) := by decide +kernel
theorem dX12_dayGoes_126 : decode cX12_dayGoes 126 = .ok (.getfield 35, 3) := by decide +kernel
theorem dX12_dayGoes_129 : decode cX12_dayGoes 129 = .ok (.iload 4, 2) := by decide +kernel
theorem dX12_dayGoes_131 : decode cX12_dayGoes 131 = .ok (.laload, 1) := by decide +kernel
theorem dX12_dayGoes_132 : decode cX12_dayGoes 132 = .ok (.iload 7, 2) := by decide +kernel
theorem dX12_dayGoes_134 : decode cX12_dayGoes 134 = .ok (.i2l, 1) := by decide +kernel
theorem dX12_dayGoes_135 : decode cX12_dayGoes 135 = .ok (.lmul, 1) := by decide +kernel
theorem dX12_dayGoes_136 : decode cX12_dayGoes 136 = .ok (.invokevirtual 181, 3) := by decide +kernel
theorem dX12_dayGoes_139 : decode cX12_dayGoes 139 = .ok (.iload 7, 2) := by decide +kernel
theorem dX12_dayGoes_141 : decode cX12_dayGoes 141 = .ok (.bipush 100, 2) := by decide +kernel
theorem dX12_dayGoes_143 : decode cX12_dayGoes 143 = .ok (.if_icmp .ge 28, 3) := by decide +kernel
theorem dX12_dayGoes_146 : decode cX12_dayGoes 146 = .ok (.aload_n 0, 1) := by decide +kernel
theorem dX12_dayGoes_147 : decode cX12_dayGoes 147 = .ok (.aload_n 0, 1) := by decide +kernel
theorem dX12_dayGoes_148 : decode cX12_dayGoes 148 = .ok (.getfield 29, 3) := by decide +kernel
theorem dX12_dayGoes_151 : decode cX12_dayGoes 151 = .ok (.iload 4, 2) := by decide +kernel
theorem dX12_dayGoes_153 : decode cX12_dayGoes 153 = .ok (.iaload, 1) := by decide +kernel
theorem dX12_dayGoes_154 : decode cX12_dayGoes 154 = .ok (.aload_n 0, 1) := by decide +kernel
theorem dX12_dayGoes_155 : decode cX12_dayGoes 155 = .ok (.getfield 35, 3) := by decide +kernel
theorem dX12_dayGoes_158 : decode cX12_dayGoes 158 = .ok (.iload 4, 2) := by decide +kernel
theorem dX12_dayGoes_160 : decode cX12_dayGoes 160 = .ok (.laload, 1) := by decide +kernel
theorem dX12_dayGoes_161 : decode cX12_dayGoes 161 = .ok (.bipush 100, 2) := by decide +kernel
theorem dX12_dayGoes_163 : decode cX12_dayGoes 163 = .ok (.iload 7, 2) := by decide +kernel
theorem dX12_dayGoes_165 : decode cX12_dayGoes 165 = .ok (.isub, 1) := by decide +kernel
theorem dX12_dayGoes_166 : decode cX12_dayGoes 166 = .ok (.i2l, 1) := by decide +kernel
theorem dX12_dayGoes_167 : decode cX12_dayGoes 167 = .ok (.lmul, 1) := by decide +kernel
theorem dX12_dayGoes_168 : decode cX12_dayGoes 168 = .ok (.invokevirtual 181, 3) := by decide +kernel
theorem dX12_dayGoes_171 : decode cX12_dayGoes 171 = .ok (.iinc 4 1, 3) := by decide +kernel
theorem dX12_dayGoes_174 : decode cX12_dayGoes 174 = .ok (.goto (-166), 3) := by decide +kernel
theorem dX12_dayGoes_177 : decode cX12_dayGoes 177 = .ok (.aload_n 0, 1) := by decide +kernel
theorem dX12_dayGoes_178 : decode cX12_dayGoes 178 = .ok (.aload_n 0, 1) := by decide +kernel
theorem dX12_dayGoes_179 : decode cX12_dayGoes 179 = .ok (.getfield 175, 3) := by decide +kernel
theorem dX12_dayGoes_182 : decode cX12_dayGoes 182 = .ok (.putfield 178, 3) := by decide +kernel
theorem dX12_dayGoes_185 : decode cX12_dayGoes 185 = .ok (.iconst 0, 1) := by decide +kernel
theorem dX12_dayGoes_186 : decode cX12_dayGoes 186 = .ok (.istore 4, 2) := by decide +kernel
theorem dX12_dayGoes_188 : decode cX12_dayGoes 188 = .ok (.iload 4, 2) := by decide +kernel
theorem dX12_dayGoes_190 : decode cX12_dayGoes 190 = .ok (.aload_n 0, 1) := by decide +kernel
theorem dX12_dayGoes_191 : decode cX12_dayGoes 191 = .ok (.getfield 178, 3) := by decide +kernel
theorem dX12_dayGoes_194 : decode cX12_dayGoes 194 = .ok (.if_icmp .ge 37, 3) := by decide +kernel
theorem dX12_dayGoes_197 : decode cX12_dayGoes 197 = .ok (.aload_n 0, 1) := by decide +kernel
theorem dX12_dayGoes_198 : decode cX12_dayGoes 198 = .ok (.getfield 29, 3) := by decide +kernel
theorem dX12_dayGoes_201 : decode cX12_dayGoes 201 = .ok (.iload 4, 2) := by decide +kernel
theorem dX12_dayGoes_203 : decode cX12_dayGoes 203 = .ok (.aload_n 0, 1) := by decide +kernel
theorem dX12_dayGoes_204 : decode cX12_dayGoes 204 = .ok (.getfield 32, 3) := by decide +kernel
theorem dX12_dayGoes_207 : decode cX12_dayGoes 207 = .ok (.iload 4, 2) := by decide +kernel
theorem dX12_dayGoes_209 : decode cX12_dayGoes 209 = .ok (.iaload, 1) := by decide +kernel
theorem dX12_dayGoes_210 : decode cX12_dayGoes 210 = .ok (.iastore, 1) := by decide +kernel
theorem dX12_dayGoes_211 : decode cX12_dayGoes 211 = .ok (.aload_n 0, 1) := by decide +kernel
theorem dX12_dayGoes_212 : decode cX12_dayGoes 212 = .ok (.getfield 35, 3) := by decide +kernel
theorem dX12_dayGoes_215 : decode cX12_dayGoes 215 = .ok (.iload 4, 2) := by decide +kernel
theorem dX12_dayGoes_217 : decode cX12_dayGoes 217 = .ok (.aload_n 0, 1) := by decide +kernel
theorem dX12_dayGoes_218 : decode cX12_dayGoes 218 = .ok (.getfield 39, 3) := by decide +kernel
theorem dX12_dayGoes_221 : decode cX12_dayGoes 221 = .ok (.iload 4, 2) := by decide +kernel
theorem dX12_dayGoes_223 : decode cX12_dayGoes 223 = .ok (.laload, 1) := by decide +kernel
theorem dX12_dayGoes_224 : decode cX12_dayGoes 224 = .ok (.lastore, 1) := by decide +kernel
theorem dX12_dayGoes_225 : decode cX12_dayGoes 225 = .ok (.iinc 4 1, 3) := by decide +kernel
theorem dX12_dayGoes_228 : decode cX12_dayGoes 228 = .ok (.goto (-40), 3) := by decide +kernel
theorem dX12_dayGoes_231 : decode cX12_dayGoes 231 = .ok (.aload_n 0, 1) := by decide +kernel
theorem dX12_dayGoes_232 : decode cX12_dayGoes 232 = .ok (.dup, 1) := by decide +kernel
theorem dX12_dayGoes_233 : decode cX12_dayGoes 233 = .ok (.getfield 185, 3) := by decide +kernel
theorem dX12_dayGoes_236 : decode cX12_dayGoes 236 = .ok (.ldc2_w 189, 3) := by decide +kernel
theorem dX12_dayGoes_239 : decode cX12_dayGoes 239 = .ok (.lmul, 1) := by decide +kernel
theorem dX12_dayGoes_240 : decode cX12_dayGoes 240 = .ok (.putfield 185, 3) := by decide +kernel
theorem dX12_dayGoes_243 : decode cX12_dayGoes 243 = .ok (.return_, 1) := by decide +kernel
theorem dX12_days_0 : decode cX12_days 0 = .ok (.aload_n 0, 1) := by decide +kernel
theorem dX12_days_1 : decode cX12_days 1 = .ok (.iconst 1, 1) := by decide +kernel
theorem dX12_days_2 : decode cX12_days 2 = .ok (.putfield 178, 3) := by decide +kernel
theorem dX12_days_5 : decode cX12_days 5 = .ok (.aload_n 0, 1) := by decide +kernel
theorem dX12_days_6 : decode cX12_days 6 = .ok (.getfield 29, 3) := by decide +kernel
theorem dX12_days_9 : decode cX12_days 9 = .ok (.iconst 0, 1) := by decide +kernel
theorem dX12_days_10 : decode cX12_days 10 = .ok (.iload_n 2, 1) := by decide +kernel
theorem dX12_days_11 : decode cX12_days 11 = .ok (.iastore, 1) := by decide +kernel
theorem dX12_days_12 : decode cX12_days 12 = .ok (.aload_n 0, 1) := by decide +kernel
theorem dX12_days_13 : decode cX12_days 13 = .ok (.getfield 35, 3) := by decide +kernel
theorem dX12_days_16 : decode cX12_days 16 = .ok (.iconst 0, 1) := by decide +kernel
theorem dX12_days_17 : decode cX12_days 17 = .ok (.lconst 1, 1) := by decide +kernel
theorem dX12_days_18 : decode cX12_days 18 = .ok (.lastore, 1) := by decide +kernel
theorem dX12_days_19 : decode cX12_days 19 = .ok (.aload_n 0, 1) := by decide +kernel
theorem dX12_days_20 : decode cX12_days 20 = .ok (.lconst 1, 1) := by decide +kernel
theorem dX12_days_21 : decode cX12_days 21 = .ok (.putfield 185, 3) := by decide +kernel
theorem dX12_days_24 : decode cX12_days 24 = .ok (.iconst 0, 1) := by decide +kernel
theorem dX12_days_25 : decode cX12_days 25 = .ok (.istore 5, 2) := by decide +kernel
theorem dX12_days_27 : decode cX12_days 27 = .ok (.iload 5, 2) := by decide +kernel
theorem dX12_days_29 : decode cX12_days 29 = .ok (.iload_n 3, 1) := by decide +kernel
theorem dX12_days_30 : decode cX12_days 30 = .ok (.if_icmp .ge 35, 3) := by decide +kernel
theorem dX12_days_33 : decode cX12_days 33 = .ok (.aload_n 0, 1) := by decide +kernel
theorem dX12_days_34 : decode cX12_days 34 = .ok (.iload_n 1, 1) := by decide +kernel
theorem dX12_days_35 : decode cX12_days 35 = .ok (.aload_n 0, 1) := by decide +kernel
theorem dX12_days_36 : decode cX12_days 36 = .ok (.getfield 9, 3) := by decide +kernel
theorem dX12_days_39 : decode cX12_days 39 = .ok (.iconst 2, 1) := by decide +kernel
theorem dX12_days_40 : decode cX12_days 40 = .ok (.iaload, 1) := by decide +kernel
theorem dX12_days_41 : decode cX12_days 41 = .ok (.iload 5, 2) := by decide +kernel
theorem dX12_days_43 : decode cX12_days 43 = .ok (.iadd, 1) := by decide +kernel
theorem dX12_days_44 : decode cX12_days 44 = .ok (.iload 5, 2) := by decide +kernel
theorem dX12_days_46 : decode cX12_days 46 = .ok (.ifCond .ne 8, 3) := by decide +kernel
theorem dX12_days_49 : decode cX12_days 49 = .ok (.iload 4, 2) := by decide +kernel
theorem dX12_days_51 : decode cX12_days 51 = .ok (.goto 5, 3) := by decide +kernel
theorem dX12_days_54 : decode cX12_days 54 = .ok (.bipush (-7), 2) := by decide +kernel
theorem dX12_days_56 : decode cX12_days 56 = .ok (.invokevirtual 191, 3) := by decide +kernel
theorem dX12_days_59 : decode cX12_days 59 = .ok (.iinc 5 1, 3) := by decide +kernel
theorem dX12_days_62 : decode cX12_days 62 = .ok (.goto (-35), 3) := by decide +kernel
theorem dX12_days_65 : decode cX12_days 65 = .ok (.return_, 1) := by decide +kernel
theorem dX12_divisor_0 : decode cX12_divisor 0 = .ok (.lload_n 0, 1) := by decide +kernel
theorem dX12_divisor_1 : decode cX12_divisor 1 = .ok (.lconst 0, 1) := by decide +kernel
theorem dX12_divisor_2 : decode cX12_divisor 2 = .ok (.lcmp, 1) := by decide +kernel
theorem dX12_divisor_3 : decode cX12_divisor 3 = .ok (.ifCond .ge 8, 3) := by decide +kernel
theorem dX12_divisor_6 : decode cX12_divisor 6 = .ok (.lload_n 0, 1) := by decide +kernel
theorem dX12_divisor_7 : decode cX12_divisor 7 = .ok (.lneg, 1) := by decide +kernel
theorem dX12_divisor_8 : decode cX12_divisor 8 = .ok (.goto 4, 3) := by decide +kernel
theorem dX12_divisor_11 : decode cX12_divisor 11 = .ok (.lload_n 0, 1) := by decide +kernel
theorem dX12_divisor_12 : decode cX12_divisor 12 = .ok (.lstore 4, 2) := by decide +kernel
theorem dX12_divisor_14 : decode cX12_divisor 14 = .ok (.lload_n 2, 1) := by decide +kernel
theorem dX12_divisor_15 : decode cX12_divisor 15 = .ok (.lstore 6, 2) := by decide +kernel
theorem dX12_divisor_17 : decode cX12_divisor 17 = .ok (.lload 6, 2) := by decide +kernel
theorem dX12_divisor_19 : decode cX12_divisor 19 = .ok (.lconst 0, 1) := by decide +kernel
theorem dX12_divisor_20 : decode cX12_divisor 20 = .ok (.lcmp, 1) := by decide +kernel
theorem dX12_divisor_21 : decode cX12_divisor 21 = .ok (.ifCond .eq 21, 3) := by decide +kernel
theorem dX12_divisor_24 : decode cX12_divisor 24 = .ok (.lload 4, 2) := by decide +kernel
theorem dX12_divisor_26 : decode cX12_divisor 26 = .ok (.lload 6, 2) := by decide +kernel
theorem dX12_divisor_28 : decode cX12_divisor 28 = .ok (.lrem, 1) := by decide +kernel
theorem dX12_divisor_29 : decode cX12_divisor 29 = .ok (.lstore 8, 2) := by decide +kernel
theorem dX12_divisor_31 : decode cX12_divisor 31 = .ok (.lload 6, 2) := by decide +kernel
theorem dX12_divisor_33 : decode cX12_divisor 33 = .ok (.lstore 4, 2) := by decide +kernel
theorem dX12_divisor_35 : decode cX12_divisor 35 = .ok (.lload 8, 2) := by decide +kernel
theorem dX12_divisor_37 : decode cX12_divisor 37 = .ok (.lstore 6, 2) := by decide +kernel
theorem dX12_divisor_39 : decode cX12_divisor 39 = .ok (.goto (-22), 3) := by decide +kernel
theorem dX12_divisor_42 : decode cX12_divisor 42 = .ok (.lload 4, 2) := by decide +kernel
theorem dX12_divisor_44 : decode cX12_divisor 44 = .ok (.lreturn, 1) := by decide +kernel
theorem dX12_lowest_0 : decode cX12_lowest 0 = .ok (.iload 4, 2) := by decide +kernel
theorem dX12_lowest_2 : decode cX12_lowest 2 = .ok (.ifCond .ne 7, 3) := by decide +kernel
theorem dX12_lowest_5 : decode cX12_lowest 5 = .ok (.lload_n 0, 1) := by decide +kernel
theorem dX12_lowest_6 : decode cX12_lowest 6 = .ok (.goto 4, 3) := by decide +kernel
theorem dX12_lowest_9 : decode cX12_lowest 9 = .ok (.lload_n 2, 1) := by decide +kernel
theorem dX12_lowest_10 : decode cX12_lowest 10 = .ok (.lload_n 0, 1) := by decide +kernel
theorem dX12_lowest_11 : decode cX12_lowest 11 = .ok (.lload_n 2, 1) := by decide +kernel
theorem dX12_lowest_12 : decode cX12_lowest 12 = .ok (.invokestatic 195, 3) := by decide +kernel
theorem dX12_lowest_15 : decode cX12_lowest 15 = .ok (.ldiv, 1) := by decide +kernel
theorem dX12_lowest_16 : decode cX12_lowest 16 = .ok (.lreturn, 1) := by decide +kernel
theorem dX12_share_0 : decode cX12_share 0 = .ok (.aload_n 0, 1) := by decide +kernel
theorem dX12_share_1 : decode cX12_share 1 = .ok (.iload_n 1, 1) := by decide +kernel
theorem dX12_share_2 : decode cX12_share 2 = .ok (.invokevirtual 156, 3) := by decide +kernel
theorem dX12_share_5 : decode cX12_share 5 = .ok (.ifCond .eq 48, 3) := by decide +kernel
theorem dX12_share_8 : decode cX12_share 8 = .ok (.iload_n 2, 1) := by decide +kernel
theorem dX12_share_9 : decode cX12_share 9 = .ok (.iconst 0, 1) := by decide +kernel
theorem dX12_share_10 : decode cX12_share 10 = .ok (.bipush 6, 2) := by decide +kernel
theorem dX12_share_12 : decode cX12_share 12 = .ok (.invokestatic 48, 3) := by decide +kernel
theorem dX12_share_15 : decode cX12_share 15 = .ok (.ifCond .eq 38, 3) := by decide +kernel
theorem dX12_share_18 : decode cX12_share 18 = .ok (.aload_n 0, 1) := by decide +kernel
theorem dX12_share_19 : decode cX12_share 19 = .ok (.iload_n 3, 1) := by decide +kernel
theorem dX12_share_20 : decode cX12_share 20 = .ok (.invokevirtual 60, 3) := by decide +kernel
theorem dX12_share_23 : decode cX12_share 23 = .ok (.ifCond .eq 30, 3) := by decide +kernel
theorem dX12_share_26 : decode cX12_share 26 = .ok (.iload 4, 2) := by decide +kernel
theorem dX12_share_28 : decode cX12_share 28 = .ok (.iconst 0, 1) := by decide +kernel
theorem dX12_share_29 : decode cX12_share 29 = .ok (.aload_n 0, 1) := by decide +kernel
theorem dX12_share_30 : decode cX12_share 30 = .ok (.getfield 9, 3) := by decide +kernel
theorem dX12_share_33 : decode cX12_share 33 = .ok (.iconst 0, 1) := by decide +kernel
theorem dX12_share_34 : decode cX12_share 34 = .ok (.iaload, 1) := by decide +kernel
theorem dX12_share_35 : decode cX12_share 35 = .ok (.iconst 1, 1) := by decide +kernel
theorem dX12_share_36 : decode cX12_share 36 = .ok (.isub, 1) := by decide +kernel
theorem dX12_share_37 : decode cX12_share 37 = .ok (.invokestatic 48, 3) := by decide +kernel
theorem dX12_share_40 : decode cX12_share 40 = .ok (.ifCond .eq 13, 3) := by decide +kernel
theorem dX12_share_43 : decode cX12_share 43 = .ok (.iload 5, 2) := by decide +kernel
theorem dX12_share_45 : decode cX12_share 45 = .ok (.iconst 0, 1) := by decide +kernel
theorem dX12_share_46 : decode cX12_share 46 = .ok (.iconst 1, 1) := by decide +kernel
theorem dX12_share_47 : decode cX12_share 47 = .ok (.invokestatic 48, 3) := by decide +kernel
theorem dX12_share_50 : decode cX12_share 50 = .ok (.ifCond .ne 7, 3) := by decide +kernel
theorem dX12_share_53 : decode cX12_share 53 = .ok (.ldc2_w 199, 3) := by decide +kernel
theorem dX12_share_56 : decode cX12_share 56 = .ok (.lreturn, 1) := by decide +kernel
theorem dX12_share_57 : decode cX12_share 57 = .ok (.aload_n 0, 1) := by decide +kernel
theorem dX12_share_58 : decode cX12_share 58 = .ok (.iload_n 1, 1) := by decide +kernel
theorem dX12_share_59 : decode cX12_share 59 = .ok (.aload_n 0, 1) := by decide +kernel
theorem dX12_share_60 : decode cX12_share 60 = .ok (.getfield 9, 3) := by decide +kernel
theorem dX12_share_63 : decode cX12_share 63 = .ok (.bipush 6, 2) := by decide +kernel
theorem dX12_share_65 : decode cX12_share 65 = .ok (.iaload, 1) := by decide +kernel
theorem dX12_share_66 : decode cX12_share 66 = .ok (.iload_n 2, 1) := by decide +kernel
theorem dX12_share_67 : decode cX12_share 67 = .ok (.bipush (-7), 2) := by decide +kernel
theorem dX12_share_69 : decode cX12_share 69 = .ok (.invokevirtual 201, 3) := by decide +kernel
theorem dX12_share_72 : decode cX12_share 72 = .ok (.lconst 0, 1) := by decide +kernel
theorem dX12_share_73 : decode cX12_share 73 = .ok (.lstore 6, 2) := by decide +kernel
theorem dX12_share_75 : decode cX12_share 75 = .ok (.iconst 0, 1) := by decide +kernel
theorem dX12_share_76 : decode cX12_share 76 = .ok (.istore 8, 2) := by decide +kernel
theorem dX12_share_78 : decode cX12_share 78 = .ok (.iload 8, 2) := by decide +kernel
theorem dX12_share_80 : decode cX12_share 80 = .ok (.aload_n 0, 1) := by decide +kernel
theorem dX12_share_81 : decode cX12_share 81 = .ok (.getfield 178, 3) := by decide +kernel
theorem dX12_share_84 : decode cX12_share 84 = .ok (.if_icmp .ge 41, 3) := by decide +kernel
theorem dX12_share_87 : decode cX12_share 87 = .ok (.lload 6, 2) := by decide +kernel
theorem dX12_share_89 : decode cX12_share 89 = .ok (.aload_n 0, 1) := by decide +kernel
theorem dX12_share_90 : decode cX12_share 90 = .ok (.getfield 29, 3) := by decide +kernel
theorem dX12_share_93 : decode cX12_share 93 = .ok (.iload 8, 2) := by decide +kernel
theorem dX12_share_95 : decode cX12_share 95 = .ok (.iaload, 1) := by decide +kernel
theorem dX12_share_96 : decode cX12_share 96 = .ok (.iload 4, 2) := by decide +kernel
theorem dX12_share_98 : decode cX12_share 98 = .ok (.invokestatic 52, 3) := by decide +kernel
theorem dX12_share_101 : decode cX12_share 101 = .ok (.iload_n 3, 1) := by decide +kernel
theorem dX12_share_102 : decode cX12_share 102 = .ok (.if_icmp .ne 13, 3) := by decide +kernel
theorem dX12_share_105 : decode cX12_share 105 = .ok (.aload_n 0, 1) := by decide +kernel
theorem dX12_share_106 : decode cX12_share 106 = .ok (.getfield 35, 3) := by decide +kernel
theorem dX12_share_109 : decode cX12_share 109 = .ok (.iload 8, 2) := by decide +kernel
theorem dX12_share_111 : decode cX12_share 111 = .ok (.laload, 1) := by decide +kernel
theorem dX12_share_112 : decode cX12_share 112 = .ok (.goto 4, 3) := by decide +kernel
theorem dX12_share_115 : decode cX12_share 115 = .ok (.lconst 0, 1) := by decide +kernel
theorem dX12_share_116 : decode cX12_share 116 = .ok (.ladd, 1) := by decide +kernel
theorem dX12_share_117 : decode cX12_share 117 = .ok (.lstore 6, 2) := by decide +kernel
theorem dX12_share_119 : decode cX12_share 119 = .ok (.iinc 8 1, 3) := by decide +kernel
theorem dX12_share_122 : decode cX12_share 122 = .ok (.goto (-44), 3) := by decide +kernel
theorem dX12_share_125 : decode cX12_share 125 = .ok (.lload 6, 2) := by decide +kernel
theorem dX12_share_127 : decode cX12_share 127 = .ok (.aload_n 0, 1) := by decide +kernel
theorem dX12_share_128 : decode cX12_share 128 = .ok (.getfield 185, 3) := by decide +kernel
theorem dX12_share_131 : decode cX12_share 131 = .ok (.iload 5, 2) := by decide +kernel
theorem dX12_share_133 : decode cX12_share 133 = .ok (.invokestatic 205, 3) := by decide +kernel
theorem dX12_share_136 : decode cX12_share 136 = .ok (.lreturn, 1) := by decide +kernel
theorem dX12_trulyNow_0 : decode cX12_trulyNow 0 = .ok (.aload_n 0, 1) := by decide +kernel
theorem dX12_trulyNow_1 : decode cX12_trulyNow 1 = .ok (.invokevirtual 64, 3) := by decide +kernel
theorem dX12_trulyNow_4 : decode cX12_trulyNow 4 = .ok (.istore_n 1, 1) := by decide +kernel
theorem dX12_trulyNow_5 : decode cX12_trulyNow 5 = .ok (.lconst 0, 1) := by decide +kernel
theorem dX12_trulyNow_6 : decode cX12_trulyNow 6 = .ok (.lstore_n 2, 1) := by decide +kernel
theorem dX12_trulyNow_7 : decode cX12_trulyNow 7 = .ok (.iconst 0, 1) := by decide +kernel
theorem dX12_trulyNow_8 : decode cX12_trulyNow 8 = .ok (.istore 4, 2) := by decide +kernel
theorem dX12_trulyNow_10 : decode cX12_trulyNow 10 = .ok (.iload 4, 2) := by decide +kernel
theorem dX12_trulyNow_12 : decode cX12_trulyNow 12 = .ok (.aload_n 0, 1) := by decide +kernel
theorem dX12_trulyNow_13 : decode cX12_trulyNow 13 = .ok (.getfield 178, 3) := by decide +kernel
theorem dX12_trulyNow_16 : decode cX12_trulyNow 16 = .ok (.if_icmp .ge 34, 3) := by decide +kernel
theorem dX12_trulyNow_19 : decode cX12_trulyNow 19 = .ok (.lload_n 2, 1) := by decide +kernel
theorem dX12_trulyNow_20 : decode cX12_trulyNow 20 = .ok (.aload_n 0, 1) := by decide +kernel
theorem dX12_trulyNow_21 : decode cX12_trulyNow 21 = .ok (.getfield 29, 3) := by decide +kernel
theorem dX12_trulyNow_24 : decode cX12_trulyNow 24 = .ok (.iload 4, 2) := by decide +kernel
theorem dX12_trulyNow_26 : decode cX12_trulyNow 26 = .ok (.iaload, 1) := by decide +kernel
theorem dX12_trulyNow_27 : decode cX12_trulyNow 27 = .ok (.iload_n 1, 1) := by decide +kernel
theorem dX12_trulyNow_28 : decode cX12_trulyNow 28 = .ok (.if_icmp .ne 13, 3) := by decide +kernel
theorem dX12_trulyNow_31 : decode cX12_trulyNow 31 = .ok (.aload_n 0, 1) := by decide +kernel
theorem dX12_trulyNow_32 : decode cX12_trulyNow 32 = .ok (.getfield 35, 3) := by decide +kernel
theorem dX12_trulyNow_35 : decode cX12_trulyNow 35 = .ok (.iload 4, 2) := by decide +kernel
theorem dX12_trulyNow_37 : decode cX12_trulyNow 37 = .ok (.laload, 1) := by decide +kernel
theorem dX12_trulyNow_38 : decode cX12_trulyNow 38 = .ok (.goto 4, 3) := by decide +kernel
theorem dX12_trulyNow_41 : decode cX12_trulyNow 41 = .ok (.lconst 0, 1) := by decide +kernel
theorem dX12_trulyNow_42 : decode cX12_trulyNow 42 = .ok (.ladd, 1) := by decide +kernel
theorem dX12_trulyNow_43 : decode cX12_trulyNow 43 = .ok (.lstore_n 2, 1) := by decide +kernel
theorem dX12_trulyNow_44 : decode cX12_trulyNow 44 = .ok (.iinc 4 1, 3) := by decide +kernel
theorem dX12_trulyNow_47 : decode cX12_trulyNow 47 = .ok (.goto (-37), 3) := by decide +kernel
theorem dX12_trulyNow_50 : decode cX12_trulyNow 50 = .ok (.lload_n 2, 1) := by decide +kernel
theorem dX12_trulyNow_51 : decode cX12_trulyNow 51 = .ok (.lreturn, 1) := by decide +kernel
theorem dX12_truly_0 : decode cX12_truly 0 = .ok (.aload_n 0, 1) := by decide +kernel
theorem dX12_truly_1 : decode cX12_truly 1 = .ok (.iload_n 1, 1) := by decide +kernel
theorem dX12_truly_2 : decode cX12_truly 2 = .ok (.invokevirtual 156, 3) := by decide +kernel
theorem dX12_truly_5 : decode cX12_truly 5 = .ok (.ifCond .eq 31, 3) := by decide +kernel
theorem dX12_truly_8 : decode cX12_truly 8 = .ok (.iload_n 2, 1) := by decide +kernel
theorem dX12_truly_9 : decode cX12_truly 9 = .ok (.iconst 0, 1) := by decide +kernel
theorem dX12_truly_10 : decode cX12_truly 10 = .ok (.bipush 6, 2) := by decide +kernel
theorem dX12_truly_12 : decode cX12_truly 12 = .ok (.invokestatic 48, 3) := by decide +kernel
theorem dX12_truly_15 : decode cX12_truly 15 = .ok (.ifCond .eq 21, 3) := by decide +kernel
theorem dX12_truly_18 : decode cX12_truly 18 = .ok (.iload_n 3, 1) := by decide +kernel
theorem dX12_truly_19 : decode cX12_truly 19 = .ok (.iconst 0, 1) := by decide +kernel
theorem dX12_truly_20 : decode cX12_truly 20 = .ok (.iconst 1, 1) := by decide +kernel
theorem dX12_truly_21 : decode cX12_truly 21 = .ok (.invokestatic 48, 3) := by decide +kernel
theorem dX12_truly_24 : decode cX12_truly 24 = .ok (.ifCond .eq 12, 3) := by decide +kernel
theorem dX12_truly_27 : decode cX12_truly 27 = .ok (.aload_n 0, 1) := by decide +kernel
theorem dX12_truly_28 : decode cX12_truly 28 = .ok (.getfield 9, 3) := by decide +kernel
theorem dX12_truly_31 : decode cX12_truly 31 = .ok (.iconst 0, 1) := by decide +kernel
theorem dX12_truly_32 : decode cX12_truly 32 = .ok (.iaload, 1) := by decide +kernel
theorem dX12_truly_33 : decode cX12_truly 33 = .ok (.ifCond .ne 7, 3) := by decide +kernel
theorem dX12_truly_36 : decode cX12_truly 36 = .ok (.ldc2_w 199, 3) := by decide +kernel
theorem dX12_truly_39 : decode cX12_truly 39 = .ok (.lreturn, 1) := by decide +kernel
theorem dX12_truly_40 : decode cX12_truly 40 = .ok (.aload_n 0, 1) := by decide +kernel
theorem dX12_truly_41 : decode cX12_truly 41 = .ok (.iload_n 1, 1) := by decide +kernel
theorem dX12_truly_42 : decode cX12_truly 42 = .ok (.aload_n 0, 1) := by decide +kernel
theorem dX12_truly_43 : decode cX12_truly 43 = .ok (.getfield 9, 3) := by decide +kernel
theorem dX12_truly_46 : decode cX12_truly 46 = .ok (.bipush 6, 2) := by decide +kernel
theorem dX12_truly_48 : decode cX12_truly 48 = .ok (.iaload, 1) := by decide +kernel
theorem dX12_truly_49 : decode cX12_truly 49 = .ok (.iload_n 2, 1) := by decide +kernel
theorem dX12_truly_50 : decode cX12_truly 50 = .ok (.bipush (-7), 2) := by decide +kernel
theorem dX12_truly_52 : decode cX12_truly 52 = .ok (.invokevirtual 201, 3) := by decide +kernel
theorem dX12_truly_55 : decode cX12_truly 55 = .ok (.aload_n 0, 1) := by decide +kernel
theorem dX12_truly_56 : decode cX12_truly 56 = .ok (.invokevirtual 209, 3) := by decide +kernel
theorem dX12_truly_59 : decode cX12_truly 59 = .ok (.aload_n 0, 1) := by decide +kernel
theorem dX12_truly_60 : decode cX12_truly 60 = .ok (.getfield 185, 3) := by decide +kernel
theorem dX12_truly_63 : decode cX12_truly 63 = .ok (.iload_n 3, 1) := by decide +kernel
theorem dX12_truly_64 : decode cX12_truly 64 = .ok (.invokestatic 205, 3) := by decide +kernel
theorem dX12_truly_67 : decode cX12_truly 67 = .ok (.lreturn, 1) := by decide +kernel
theorem dX12_isAhead_0 : decode cX12_isAhead 0 = .ok (.iconst 0, 1) := by decide +kernel
theorem dX12_isAhead_1 : decode cX12_isAhead 1 = .ok (.istore_n 3, 1) := by decide +kernel
theorem dX12_isAhead_2 : decode cX12_isAhead 2 = .ok (.iload_n 3, 1) := by decide +kernel
theorem dX12_isAhead_3 : decode cX12_isAhead 3 = .ok (.aload_n 0, 1) := by decide +kernel
theorem dX12_isAhead_4 : decode cX12_isAhead 4 = .ok (.getfield 9, 3) := by decide +kernel
theorem dX12_isAhead_7 : decode cX12_isAhead 7 = .ok (.iconst 0, 1) := by decide +kernel
theorem dX12_isAhead_8 : decode cX12_isAhead 8 = .ok (.iaload, 1) := by decide +kernel
theorem dX12_isAhead_9 : decode cX12_isAhead 9 = .ok (.if_icmp .ge 22, 3) := by decide +kernel
theorem dX12_isAhead_12 : decode cX12_isAhead 12 = .ok (.iload_n 1, 1) := by decide +kernel
theorem dX12_isAhead_13 : decode cX12_isAhead 13 = .ok (.iload_n 3, 1) := by decide +kernel
theorem dX12_isAhead_14 : decode cX12_isAhead 14 = .ok (.invokestatic 52, 3) := by decide +kernel
theorem dX12_isAhead_17 : decode cX12_isAhead 17 = .ok (.iload_n 2, 1) := by decide +kernel
theorem dX12_isAhead_18 : decode cX12_isAhead 18 = .ok (.iload_n 3, 1) := by decide +kernel
theorem dX12_isAhead_19 : decode cX12_isAhead 19 = .ok (.invokestatic 52, 3) := by decide +kernel
theorem dX12_isAhead_22 : decode cX12_isAhead 22 = .ok (.if_icmp .ne 9, 3) := by decide +kernel
theorem dX12_isAhead_25 : decode cX12_isAhead 25 = .ok (.iinc 3 1, 3) := by decide +kernel
theorem dX12_isAhead_28 : decode cX12_isAhead 28 = .ok (.goto (-26), 3) := by decide +kernel
theorem dX12_isAhead_31 : decode cX12_isAhead 31 = .ok (.iload_n 3, 1) := by decide +kernel
theorem dX12_isAhead_32 : decode cX12_isAhead 32 = .ok (.aload_n 0, 1) := by decide +kernel
theorem dX12_isAhead_33 : decode cX12_isAhead 33 = .ok (.getfield 9, 3) := by decide +kernel
theorem dX12_isAhead_36 : decode cX12_isAhead 36 = .ok (.iconst 0, 1) := by decide +kernel
theorem dX12_isAhead_37 : decode cX12_isAhead 37 = .ok (.iaload, 1) := by decide +kernel
theorem dX12_isAhead_38 : decode cX12_isAhead 38 = .ok (.if_icmp .ge 20, 3) := by decide +kernel
theorem dX12_isAhead_41 : decode cX12_isAhead 41 = .ok (.iload_n 1, 1) := by decide +kernel
theorem dX12_isAhead_42 : decode cX12_isAhead 42 = .ok (.iload_n 3, 1) := by decide +kernel
theorem dX12_isAhead_43 : decode cX12_isAhead 43 = .ok (.invokestatic 52, 3) := by decide +kernel
theorem dX12_isAhead_46 : decode cX12_isAhead 46 = .ok (.iload_n 2, 1) := by decide +kernel
theorem dX12_isAhead_47 : decode cX12_isAhead 47 = .ok (.iload_n 3, 1) := by decide +kernel
theorem dX12_isAhead_48 : decode cX12_isAhead 48 = .ok (.invokestatic 52, 3) := by decide +kernel
theorem dX12_isAhead_51 : decode cX12_isAhead 51 = .ok (.if_icmp .ge 7, 3) := by decide +kernel
theorem dX12_isAhead_54 : decode cX12_isAhead 54 = .ok (.iconst 1, 1) := by decide +kernel
theorem dX12_isAhead_55 : decode cX12_isAhead 55 = .ok (.goto 4, 3) := by decide +kernel
theorem dX12_isAhead_58 : decode cX12_isAhead 58 = .ok (.iconst 0, 1) := by decide +kernel
theorem dX12_isAhead_59 : decode cX12_isAhead 59 = .ok (.ireturn, 1) := by decide +kernel
theorem dX12_likely_0 : decode cX12_likely 0 = .ok (.aload_n 0, 1) := by decide +kernel
theorem dX12_likely_1 : decode cX12_likely 1 = .ok (.iload_n 1, 1) := by decide +kernel
theorem dX12_likely_2 : decode cX12_likely 2 = .ok (.invokevirtual 156, 3) := by decide +kernel
theorem dX12_likely_5 : decode cX12_likely 5 = .ok (.ifCond .eq 19, 3) := by decide +kernel
theorem dX12_likely_8 : decode cX12_likely 8 = .ok (.iload_n 3, 1) := by decide +kernel
theorem dX12_likely_9 : decode cX12_likely 9 = .ok (.iconst 0, 1) := by decide +kernel
theorem dX12_likely_10 : decode cX12_likely 10 = .ok (.aload_n 0, 1) := by decide +kernel
theorem dX12_likely_11 : decode cX12_likely 11 = .ok (.getfield 9, 3) := by decide +kernel
theorem dX12_likely_14 : decode cX12_likely 14 = .ok (.iconst 0, 1) := by decide +kernel
theorem dX12_likely_15 : decode cX12_likely 15 = .ok (.iaload, 1) := by decide +kernel
theorem dX12_likely_16 : decode cX12_likely 16 = .ok (.iconst 1, 1) := by decide +kernel
theorem dX12_likely_17 : decode cX12_likely 17 = .ok (.isub, 1) := by decide +kernel
theorem dX12_likely_18 : decode cX12_likely 18 = .ok (.invokestatic 48, 3) := by decide +kernel
theorem dX12_likely_21 : decode cX12_likely 21 = .ok (.ifCond .ne 5, 3) := by decide +kernel
theorem dX12_likely_24 : decode cX12_likely 24 = .ok (.iconst (-1), 1) := by decide +kernel
theorem dX12_likely_25 : decode cX12_likely 25 = .ok (.ireturn, 1) := by decide +kernel
theorem dX12_likely_26 : decode cX12_likely 26 = .ok (.iload_n 2, 1) := by decide +kernel
theorem dX12_likely_27 : decode cX12_likely 27 = .ok (.iconst 0, 1) := by decide +kernel
theorem dX12_likely_28 : decode cX12_likely 28 = .ok (.bipush 6, 2) := by decide +kernel
theorem dX12_likely_30 : decode cX12_likely 30 = .ok (.invokestatic 48, 3) := by decide +kernel
theorem dX12_likely_33 : decode cX12_likely 33 = .ok (.ifCond .ne 6, 3) := by decide +kernel
theorem dX12_likely_36 : decode cX12_likely 36 = .ok (.bipush (-2), 2) := by decide +kernel
theorem dX12_likely_38 : decode cX12_likely 38 = .ok (.ireturn, 1) := by decide +kernel
theorem dX12_likely_39 : decode cX12_likely 39 = .ok (.aload_n 0, 1) := by decide +kernel
theorem dX12_likely_40 : decode cX12_likely 40 = .ok (.iload_n 1, 1) := by decide +kernel
theorem dX12_likely_41 : decode cX12_likely 41 = .ok (.aload_n 0, 1) := by decide +kernel
theorem dX12_likely_42 : decode cX12_likely 42 = .ok (.getfield 9, 3) := by decide +kernel
theorem dX12_likely_45 : decode cX12_likely 45 = .ok (.bipush 6, 2) := by decide +kernel
theorem dX12_likely_47 : decode cX12_likely 47 = .ok (.iaload, 1) := by decide +kernel
theorem dX12_likely_48 : decode cX12_likely 48 = .ok (.iload_n 2, 1) := by decide +kernel
theorem dX12_likely_49 : decode cX12_likely 49 = .ok (.bipush (-7), 2) := by decide +kernel
theorem dX12_likely_51 : decode cX12_likely 51 = .ok (.invokevirtual 201, 3) := by decide +kernel
theorem dX12_likely_54 : decode cX12_likely 54 = .ok (.iconst 0, 1) := by decide +kernel
theorem dX12_likely_55 : decode cX12_likely 55 = .ok (.istore 4, 2) := by decide +kernel
theorem dX12_likely_57 : decode cX12_likely 57 = .ok (.iconst 1, 1) := by decide +kernel
theorem dX12_likely_58 : decode cX12_likely 58 = .ok (.istore 5, 2) := by decide +kernel
theorem dX12_likely_60 : decode cX12_likely 60 = .ok (.iload 5, 2) := by decide +kernel
theorem dX12_likely_62 : decode cX12_likely 62 = .ok (.aload_n 0, 1) := by decide +kernel
theorem dX12_likely_63 : decode cX12_likely 63 = .ok (.getfield 178, 3) := by decide +kernel
theorem dX12_likely_66 : decode cX12_likely 66 = .ok (.if_icmp .ge 75, 3) := by decide +kernel
theorem dX12_likely_69 : decode cX12_likely 69 = .ok (.aload_n 0, 1) := by decide +kernel
theorem dX12_likely_70 : decode cX12_likely 70 = .ok (.getfield 35, 3) := by decide +kernel
theorem dX12_likely_73 : decode cX12_likely 73 = .ok (.iload 5, 2) := by decide +kernel
theorem dX12_likely_75 : decode cX12_likely 75 = .ok (.laload, 1) := by decide +kernel
theorem dX12_likely_76 : decode cX12_likely 76 = .ok (.aload_n 0, 1) := by decide +kernel
theorem dX12_likely_77 : decode cX12_likely 77 = .ok (.getfield 35, 3) := by decide +kernel
theorem dX12_likely_80 : decode cX12_likely 80 = .ok (.iload 4, 2) := by decide +kernel
theorem dX12_likely_82 : decode cX12_likely 82 = .ok (.laload, 1) := by decide +kernel
theorem dX12_likely_83 : decode cX12_likely 83 = .ok (.lcmp, 1) := by decide +kernel
theorem dX12_likely_84 : decode cX12_likely 84 = .ok (.ifCond .gt 42, 3) := by decide +kernel
theorem dX12_likely_87 : decode cX12_likely 87 = .ok (.aload_n 0, 1) := by decide +kernel
theorem dX12_likely_88 : decode cX12_likely 88 = .ok (.getfield 35, 3) := by decide +kernel
theorem dX12_likely_91 : decode cX12_likely 91 = .ok (.iload 5, 2) := by decide +kernel
theorem dX12_likely_93 : decode cX12_likely 93 = .ok (.laload, 1) := by decide +kernel
theorem dX12_likely_94 : decode cX12_likely 94 = .ok (.aload_n 0, 1) := by decide +kernel
theorem dX12_likely_95 : decode cX12_likely 95 = .ok (.getfield 35, 3) := by decide +kernel
theorem dX12_likely_98 : decode cX12_likely 98 = .ok (.iload 4, 2) := by decide +kernel
theorem dX12_likely_100 : decode cX12_likely 100 = .ok (.laload, 1) := by decide +kernel
theorem dX12_likely_101 : decode cX12_likely 101 = .ok (.lcmp, 1) := by decide +kernel
theorem dX12_likely_102 : decode cX12_likely 102 = .ok (.ifCond .ne 29, 3) := by decide +kernel
theorem dX12_likely_105 : decode cX12_likely 105 = .ok (.aload_n 0, 1) := by decide +kernel
theorem dX12_likely_106 : decode cX12_likely 106 = .ok (.aload_n 0, 1) := by decide +kernel
theorem dX12_likely_107 : decode cX12_likely 107 = .ok (.getfield 29, 3) := by decide +kernel
theorem dX12_likely_110 : decode cX12_likely 110 = .ok (.iload 5, 2) := by decide +kernel
theorem dX12_likely_112 : decode cX12_likely 112 = .ok (.iaload, 1) := by decide +kernel
theorem dX12_likely_113 : decode cX12_likely 113 = .ok (.aload_n 0, 1) := by decide +kernel
theorem dX12_likely_114 : decode cX12_likely 114 = .ok (.getfield 29, 3) := by decide +kernel
theorem dX12_likely_117 : decode cX12_likely 117 = .ok (.iload 4, 2) := by decide +kernel
theorem dX12_likely_119 : decode cX12_likely 119 = .ok (.iaload, 1) := by decide +kernel
theorem dX12_likely_120 : decode cX12_likely 120 = .ok (.invokevirtual 213, 3) := by decide +kernel
theorem dX12_likely_123 : decode cX12_likely 123 = .ok (.ifCond .eq 8, 3) := by decide +kernel
theorem dX12_likely_126 : decode cX12_likely 126 = .ok (.iload 5, 2) := by decide +kernel
theorem dX12_likely_128 : decode cX12_likely 128 = .ok (.goto 5, 3) := by decide +kernel
theorem dX12_likely_131 : decode cX12_likely 131 = .ok (.iload 4, 2) := by decide +kernel
theorem dX12_likely_133 : decode cX12_likely 133 = .ok (.istore 4, 2) := by decide +kernel
theorem dX12_likely_135 : decode cX12_likely 135 = .ok (.iinc 5 1, 3) := by decide +kernel
theorem dX12_likely_138 : decode cX12_likely 138 = .ok (.goto (-78), 3) := by decide +kernel
theorem dX12_likely_141 : decode cX12_likely 141 = .ok (.aload_n 0, 1) := by decide +kernel
theorem dX12_likely_142 : decode cX12_likely 142 = .ok (.getfield 29, 3) := by decide +kernel
theorem dX12_likely_145 : decode cX12_likely 145 = .ok (.iload 4, 2) := by decide +kernel
theorem dX12_likely_147 : decode cX12_likely 147 = .ok (.iaload, 1) := by decide +kernel
theorem dX12_likely_148 : decode cX12_likely 148 = .ok (.iload_n 3, 1) := by decide +kernel
theorem dX12_likely_149 : decode cX12_likely 149 = .ok (.invokestatic 52, 3) := by decide +kernel
theorem dX12_likely_152 : decode cX12_likely 152 = .ok (.ireturn, 1) := by decide +kernel
theorem dX12_rungs_0 : decode cX12_rungs 0 = .ok (.lconst 0, 1) := by decide +kernel
theorem dX12_rungs_1 : decode cX12_rungs 1 = .ok (.lstore_n 2, 1) := by decide +kernel
theorem dX12_rungs_2 : decode cX12_rungs 2 = .ok (.iconst 0, 1) := by decide +kernel
theorem dX12_rungs_3 : decode cX12_rungs 3 = .ok (.istore 4, 2) := by decide +kernel
theorem dX12_rungs_5 : decode cX12_rungs 5 = .ok (.iload 4, 2) := by decide +kernel
theorem dX12_rungs_7 : decode cX12_rungs 7 = .ok (.aload_n 0, 1) := by decide +kernel
theorem dX12_rungs_8 : decode cX12_rungs 8 = .ok (.getfield 178, 3) := by decide +kernel
theorem dX12_rungs_11 : decode cX12_rungs 11 = .ok (.if_icmp .ge 33, 3) := by decide +kernel
theorem dX12_rungs_14 : decode cX12_rungs 14 = .ok (.lload_n 2, 1) := by decide +kernel
theorem dX12_rungs_15 : decode cX12_rungs 15 = .ok (.aload_n 0, 1) := by decide +kernel
theorem dX12_rungs_16 : decode cX12_rungs 16 = .ok (.getfield 35, 3) := by decide +kernel
theorem dX12_rungs_19 : decode cX12_rungs 19 = .ok (.iload 4, 2) := by decide +kernel
theorem dX12_rungs_21 : decode cX12_rungs 21 = .ok (.laload, 1) := by decide +kernel
theorem dX12_rungs_22 : decode cX12_rungs 22 = .ok (.aload_n 0, 1) := by decide +kernel
theorem dX12_rungs_23 : decode cX12_rungs 23 = .ok (.aload_n 0, 1) := by decide +kernel
theorem dX12_rungs_24 : decode cX12_rungs 24 = .ok (.getfield 29, 3) := by decide +kernel
theorem dX12_rungs_27 : decode cX12_rungs 27 = .ok (.iload 4, 2) := by decide +kernel
theorem dX12_rungs_29 : decode cX12_rungs 29 = .ok (.iaload, 1) := by decide +kernel
theorem dX12_rungs_30 : decode cX12_rungs 30 = .ok (.iload_n 1, 1) := by decide +kernel
theorem dX12_rungs_31 : decode cX12_rungs 31 = .ok (.invokevirtual 68, 3) := by decide +kernel
theorem dX12_rungs_34 : decode cX12_rungs 34 = .ok (.i2l, 1) := by decide +kernel
theorem dX12_rungs_35 : decode cX12_rungs 35 = .ok (.lmul, 1) := by decide +kernel
theorem dX12_rungs_36 : decode cX12_rungs 36 = .ok (.ladd, 1) := by decide +kernel
theorem dX12_rungs_37 : decode cX12_rungs 37 = .ok (.lstore_n 2, 1) := by decide +kernel
theorem dX12_rungs_38 : decode cX12_rungs 38 = .ok (.iinc 4 1, 3) := by decide +kernel
theorem dX12_rungs_41 : decode cX12_rungs 41 = .ok (.goto (-36), 3) := by decide +kernel
theorem dX12_rungs_44 : decode cX12_rungs 44 = .ok (.lload_n 2, 1) := by decide +kernel
theorem dX12_rungs_45 : decode cX12_rungs 45 = .ok (.lreturn, 1) := by decide +kernel
theorem dX12_mean_0 : decode cX12_mean 0 = .ok (.aload_n 0, 1) := by decide +kernel
theorem dX12_mean_1 : decode cX12_mean 1 = .ok (.iload_n 1, 1) := by decide +kernel
theorem dX12_mean_2 : decode cX12_mean 2 = .ok (.invokevirtual 156, 3) := by decide +kernel
theorem dX12_mean_5 : decode cX12_mean 5 = .ok (.ifCond .eq 31, 3) := by decide +kernel
theorem dX12_mean_8 : decode cX12_mean 8 = .ok (.iload_n 2, 1) := by decide +kernel
theorem dX12_mean_9 : decode cX12_mean 9 = .ok (.iconst 0, 1) := by decide +kernel
theorem dX12_mean_10 : decode cX12_mean 10 = .ok (.bipush 6, 2) := by decide +kernel
theorem dX12_mean_12 : decode cX12_mean 12 = .ok (.invokestatic 48, 3) := by decide +kernel
theorem dX12_mean_15 : decode cX12_mean 15 = .ok (.ifCond .eq 21, 3) := by decide +kernel
theorem dX12_mean_18 : decode cX12_mean 18 = .ok (.aload_n 0, 1) := by decide +kernel
theorem dX12_mean_19 : decode cX12_mean 19 = .ok (.iload_n 3, 1) := by decide +kernel
theorem dX12_mean_20 : decode cX12_mean 20 = .ok (.invokevirtual 60, 3) := by decide +kernel
theorem dX12_mean_23 : decode cX12_mean 23 = .ok (.ifCond .eq 13, 3) := by decide +kernel
theorem dX12_mean_26 : decode cX12_mean 26 = .ok (.iload 4, 2) := by decide +kernel
theorem dX12_mean_28 : decode cX12_mean 28 = .ok (.iconst 0, 1) := by decide +kernel
theorem dX12_mean_29 : decode cX12_mean 29 = .ok (.iconst 1, 1) := by decide +kernel
theorem dX12_mean_30 : decode cX12_mean 30 = .ok (.invokestatic 48, 3) := by decide +kernel
theorem dX12_mean_33 : decode cX12_mean 33 = .ok (.ifCond .ne 7, 3) := by decide +kernel
theorem dX12_mean_36 : decode cX12_mean 36 = .ok (.ldc2_w 199, 3) := by decide +kernel
theorem dX12_mean_39 : decode cX12_mean 39 = .ok (.lreturn, 1) := by decide +kernel
theorem dX12_mean_40 : decode cX12_mean 40 = .ok (.aload_n 0, 1) := by decide +kernel
theorem dX12_mean_41 : decode cX12_mean 41 = .ok (.iload_n 1, 1) := by decide +kernel
theorem dX12_mean_42 : decode cX12_mean 42 = .ok (.aload_n 0, 1) := by decide +kernel
theorem dX12_mean_43 : decode cX12_mean 43 = .ok (.getfield 9, 3) := by decide +kernel
theorem dX12_mean_46 : decode cX12_mean 46 = .ok (.bipush 6, 2) := by decide +kernel
theorem dX12_mean_48 : decode cX12_mean 48 = .ok (.iaload, 1) := by decide +kernel
theorem dX12_mean_49 : decode cX12_mean 49 = .ok (.iload_n 2, 1) := by decide +kernel
theorem dX12_mean_50 : decode cX12_mean 50 = .ok (.bipush (-7), 2) := by decide +kernel
theorem dX12_mean_52 : decode cX12_mean 52 = .ok (.invokevirtual 201, 3) := by decide +kernel
theorem dX12_mean_55 : decode cX12_mean 55 = .ok (.aload_n 0, 1) := by decide +kernel
theorem dX12_mean_56 : decode cX12_mean 56 = .ok (.iload_n 3, 1) := by decide +kernel
theorem dX12_mean_57 : decode cX12_mean 57 = .ok (.invokevirtual 216, 3) := by decide +kernel
theorem dX12_mean_60 : decode cX12_mean 60 = .ok (.aload_n 0, 1) := by decide +kernel
theorem dX12_mean_61 : decode cX12_mean 61 = .ok (.getfield 185, 3) := by decide +kernel
theorem dX12_mean_64 : decode cX12_mean 64 = .ok (.iload 4, 2) := by decide +kernel
theorem dX12_mean_66 : decode cX12_mean 66 = .ok (.invokestatic 205, 3) := by decide +kernel
theorem dX12_mean_69 : decode cX12_mean 69 = .ok (.lreturn, 1) := by decide +kernel
theorem dX12_askedAny_0 : decode cX12_askedAny 0 = .ok (.iconst 0, 1) := by decide +kernel
theorem dX12_askedAny_1 : decode cX12_askedAny 1 = .ok (.istore_n 3, 1) := by decide +kernel
theorem dX12_askedAny_2 : decode cX12_askedAny 2 = .ok (.iconst 0, 1) := by decide +kernel
theorem dX12_askedAny_3 : decode cX12_askedAny 3 = .ok (.istore 4, 2) := by decide +kernel
theorem dX12_askedAny_5 : decode cX12_askedAny 5 = .ok (.iload 4, 2) := by decide +kernel
theorem dX12_askedAny_7 : decode cX12_askedAny 7 = .ok (.bipush 7, 2) := by decide +kernel
theorem dX12_askedAny_9 : decode cX12_askedAny 9 = .ok (.if_icmp .ge 44, 3) := by decide +kernel
theorem dX12_askedAny_12 : decode cX12_askedAny 12 = .ok (.aload_n 0, 1) := by decide +kernel
theorem dX12_askedAny_13 : decode cX12_askedAny 13 = .ok (.iload_n 1, 1) := by decide +kernel
theorem dX12_askedAny_14 : decode cX12_askedAny 14 = .ok (.aload_n 0, 1) := by decide +kernel
theorem dX12_askedAny_15 : decode cX12_askedAny 15 = .ok (.getfield 9, 3) := by decide +kernel
theorem dX12_askedAny_18 : decode cX12_askedAny 18 = .ok (.bipush 6, 2) := by decide +kernel
theorem dX12_askedAny_20 : decode cX12_askedAny 20 = .ok (.iaload, 1) := by decide +kernel
theorem dX12_askedAny_21 : decode cX12_askedAny 21 = .ok (.iload_n 2, 1) := by decide +kernel
theorem dX12_askedAny_22 : decode cX12_askedAny 22 = .ok (.iload 4, 2) := by decide +kernel
theorem dX12_askedAny_24 : decode cX12_askedAny 24 = .ok (.invokevirtual 169, 3) := by decide +kernel
theorem dX12_askedAny_27 : decode cX12_askedAny 27 = .ok (.istore 5, 2) := by decide +kernel
theorem dX12_askedAny_29 : decode cX12_askedAny 29 = .ok (.iload_n 3, 1) := by decide +kernel
theorem dX12_askedAny_30 : decode cX12_askedAny 30 = .ok (.iload 5, 2) := by decide +kernel
theorem dX12_askedAny_32 : decode cX12_askedAny 32 = .ok (.bipush (-5), 2) := by decide +kernel
theorem dX12_askedAny_34 : decode cX12_askedAny 34 = .ok (.if_icmp .ne 7, 3) := by decide +kernel
theorem dX12_askedAny_37 : decode cX12_askedAny 37 = .ok (.iconst 0, 1) := by decide +kernel
theorem dX12_askedAny_38 : decode cX12_askedAny 38 = .ok (.goto 7, 3) := by decide +kernel
theorem dX12_askedAny_41 : decode cX12_askedAny 41 = .ok (.iconst 1, 1) := by decide +kernel
theorem dX12_askedAny_42 : decode cX12_askedAny 42 = .ok (.iload 5, 2) := by decide +kernel
theorem dX12_askedAny_44 : decode cX12_askedAny 44 = .ok (.ishl, 1) := by decide +kernel
theorem dX12_askedAny_45 : decode cX12_askedAny 45 = .ok (.ior, 1) := by decide +kernel
theorem dX12_askedAny_46 : decode cX12_askedAny 46 = .ok (.istore_n 3, 1) := by decide +kernel
theorem dX12_askedAny_47 : decode cX12_askedAny 47 = .ok (.iinc 4 1, 3) := by decide +kernel
theorem dX12_askedAny_50 : decode cX12_askedAny 50 = .ok (.goto (-45), 3) := by decide +kernel
theorem dX12_askedAny_53 : decode cX12_askedAny 53 = .ok (.iload_n 3, 1) := by decide +kernel
theorem dX12_askedAny_54 : decode cX12_askedAny 54 = .ok (.ireturn, 1) := by decide +kernel
theorem dX12_stuck_0 : decode cX12_stuck 0 = .ok (.aload_n 0, 1) := by decide +kernel
theorem dX12_stuck_1 : decode cX12_stuck 1 = .ok (.iload_n 1, 1) := by decide +kernel
theorem dX12_stuck_2 : decode cX12_stuck 2 = .ok (.invokevirtual 156, 3) := by decide +kernel
theorem dX12_stuck_5 : decode cX12_stuck 5 = .ok (.ifCond .eq 12, 3) := by decide +kernel
theorem dX12_stuck_8 : decode cX12_stuck 8 = .ok (.iload_n 2, 1) := by decide +kernel
theorem dX12_stuck_9 : decode cX12_stuck 9 = .ok (.iconst 0, 1) := by decide +kernel
theorem dX12_stuck_10 : decode cX12_stuck 10 = .ok (.iconst 1, 1) := by decide +kernel
theorem dX12_stuck_11 : decode cX12_stuck 11 = .ok (.invokestatic 48, 3) := by decide +kernel
theorem dX12_stuck_14 : decode cX12_stuck 14 = .ok (.ifCond .ne 5, 3) := by decide +kernel
theorem dX12_stuck_17 : decode cX12_stuck 17 = .ok (.iconst (-1), 1) := by decide +kernel
theorem dX12_stuck_18 : decode cX12_stuck 18 = .ok (.ireturn, 1) := by decide +kernel
theorem dX12_stuck_19 : decode cX12_stuck 19 = .ok (.iconst 0, 1) := by decide +kernel
theorem dX12_stuck_20 : decode cX12_stuck 20 = .ok (.istore_n 3, 1) := by decide +kernel
theorem dX12_stuck_21 : decode cX12_stuck 21 = .ok (.iconst 0, 1) := by decide +kernel
theorem dX12_stuck_22 : decode cX12_stuck 22 = .ok (.istore 4, 2) := by decide +kernel
theorem dX12_stuck_24 : decode cX12_stuck 24 = .ok (.iconst 0, 1) := by decide +kernel
theorem dX12_stuck_25 : decode cX12_stuck 25 = .ok (.istore 5, 2) := by decide +kernel
theorem dX12_stuck_27 : decode cX12_stuck 27 = .ok (.iconst 0, 1) := by decide +kernel
theorem dX12_stuck_28 : decode cX12_stuck 28 = .ok (.istore 6, 2) := by decide +kernel
theorem dX12_stuck_30 : decode cX12_stuck 30 = .ok (.iload 6, 2) := by decide +kernel
theorem dX12_stuck_32 : decode cX12_stuck 32 = .ok (.aload_n 0, 1) := by decide +kernel
theorem dX12_stuck_33 : decode cX12_stuck 33 = .ok (.getfield 9, 3) := by decide +kernel
theorem dX12_stuck_36 : decode cX12_stuck 36 = .ok (.iconst 0, 1) := by decide +kernel
theorem dX12_stuck_37 : decode cX12_stuck 37 = .ok (.iaload, 1) := by decide +kernel
theorem dX12_stuck_38 : decode cX12_stuck 38 = .ok (.if_icmp .ge 143, 3) := by decide +kernel
theorem dX12_stuck_41 : decode cX12_stuck 41 = .ok (.aload_n 0, 1) := by decide +kernel
theorem dX12_stuck_42 : decode cX12_stuck 42 = .ok (.iload_n 1, 1) := by decide +kernel
theorem dX12_stuck_43 : decode cX12_stuck 43 = .ok (.iload 6, 2) := by decide +kernel
theorem dX12_stuck_45 : decode cX12_stuck 45 = .ok (.invokevirtual 220, 3) := by decide +kernel
theorem dX12_stuck_48 : decode cX12_stuck 48 = .ok (.istore 7, 2) := by decide +kernel
theorem dX12_stuck_50 : decode cX12_stuck 50 = .ok (.iload_n 3, 1) := by decide +kernel
theorem dX12_stuck_51 : decode cX12_stuck 51 = .ok (.iload 7, 2) := by decide +kernel
theorem dX12_stuck_53 : decode cX12_stuck 53 = .ok (.ior, 1) := by decide +kernel
theorem dX12_stuck_54 : decode cX12_stuck 54 = .ok (.istore_n 3, 1) := by decide +kernel
theorem dX12_stuck_55 : decode cX12_stuck 55 = .ok (.iconst 0, 1) := by decide +kernel
theorem dX12_stuck_56 : decode cX12_stuck 56 = .ok (.istore 8, 2) := by decide +kernel
theorem dX12_stuck_58 : decode cX12_stuck 58 = .ok (.iload 8, 2) := by decide +kernel
theorem dX12_stuck_60 : decode cX12_stuck 60 = .ok (.aload_n 0, 1) := by decide +kernel
theorem dX12_stuck_61 : decode cX12_stuck 61 = .ok (.getfield 9, 3) := by decide +kernel
theorem dX12_stuck_64 : decode cX12_stuck 64 = .ok (.iconst 0, 1) := by decide +kernel
theorem dX12_stuck_65 : decode cX12_stuck 65 = .ok (.iaload, 1) := by decide +kernel
theorem dX12_stuck_66 : decode cX12_stuck 66 = .ok (.if_icmp .ge 109, 3) := by decide +kernel
theorem dX12_stuck_69 : decode cX12_stuck 69 = .ok (.iload 6, 2) := by decide +kernel
theorem dX12_stuck_71 : decode cX12_stuck 71 = .ok (.iload 8, 2) := by decide +kernel
theorem dX12_stuck_73 : decode cX12_stuck 73 = .ok (.if_icmp .eq 47, 3) := by decide +kernel
theorem dX12_stuck_76 : decode cX12_stuck 76 = .ok (.aload_n 0, 1) := by decide +kernel
theorem dX12_stuck_77 : decode cX12_stuck 77 = .ok (.aload_n 0, 1) := by decide +kernel
theorem dX12_stuck_78 : decode cX12_stuck 78 = .ok (.getfield 9, 3) := by decide +kernel
theorem dX12_stuck_81 : decode cX12_stuck 81 = .ok (.bipush 6, 2) := by decide +kernel
theorem dX12_stuck_83 : decode cX12_stuck 83 = .ok (.iaload, 1) := by decide +kernel
theorem dX12_stuck_84 : decode cX12_stuck 84 = .ok (.iload 6, 2) := by decide +kernel
theorem dX12_stuck_86 : decode cX12_stuck 86 = .ok (.invokevirtual 68, 3) := by decide +kernel
theorem dX12_stuck_89 : decode cX12_stuck 89 = .ok (.aload_n 0, 1) := by decide +kernel
theorem dX12_stuck_90 : decode cX12_stuck 90 = .ok (.aload_n 0, 1) := by decide +kernel
theorem dX12_stuck_91 : decode cX12_stuck 91 = .ok (.getfield 9, 3) := by decide +kernel
theorem dX12_stuck_94 : decode cX12_stuck 94 = .ok (.bipush 6, 2) := by decide +kernel
theorem dX12_stuck_96 : decode cX12_stuck 96 = .ok (.iaload, 1) := by decide +kernel
theorem dX12_stuck_97 : decode cX12_stuck 97 = .ok (.iload 8, 2) := by decide +kernel
theorem dX12_stuck_99 : decode cX12_stuck 99 = .ok (.invokevirtual 68, 3) := by decide +kernel
theorem dX12_stuck_102 : decode cX12_stuck 102 = .ok (.if_icmp .le 18, 3) := by decide +kernel
theorem dX12_stuck_105 : decode cX12_stuck 105 = .ok (.aload_n 0, 1) := by decide +kernel
theorem dX12_stuck_106 : decode cX12_stuck 106 = .ok (.iload 6, 2) := by decide +kernel
theorem dX12_stuck_108 : decode cX12_stuck 108 = .ok (.iload 8, 2) := by decide +kernel
theorem dX12_stuck_110 : decode cX12_stuck 110 = .ok (.invokevirtual 56, 3) := by decide +kernel
theorem dX12_stuck_113 : decode cX12_stuck 113 = .ok (.ifCond .eq 7, 3) := by decide +kernel
theorem dX12_stuck_116 : decode cX12_stuck 116 = .ok (.iconst 1, 1) := by decide +kernel
theorem dX12_stuck_117 : decode cX12_stuck 117 = .ok (.goto 4, 3) := by decide +kernel
theorem dX12_stuck_120 : decode cX12_stuck 120 = .ok (.iconst 0, 1) := by decide +kernel
theorem dX12_stuck_121 : decode cX12_stuck 121 = .ok (.istore 9, 2) := by decide +kernel
theorem dX12_stuck_123 : decode cX12_stuck 123 = .ok (.iload 4, 2) := by decide +kernel
theorem dX12_stuck_125 : decode cX12_stuck 125 = .ok (.iload 9, 2) := by decide +kernel
theorem dX12_stuck_127 : decode cX12_stuck 127 = .ok (.ifCond .eq 20, 3) := by decide +kernel
theorem dX12_stuck_130 : decode cX12_stuck 130 = .ok (.iload 7, 2) := by decide +kernel
theorem dX12_stuck_132 : decode cX12_stuck 132 = .ok (.iload 8, 2) := by decide +kernel
theorem dX12_stuck_134 : decode cX12_stuck 134 = .ok (.ishr, 1) := by decide +kernel
theorem dX12_stuck_135 : decode cX12_stuck 135 = .ok (.iconst 1, 1) := by decide +kernel
theorem dX12_stuck_136 : decode cX12_stuck 136 = .ok (.iand, 1) := by decide +kernel
theorem dX12_stuck_137 : decode cX12_stuck 137 = .ok (.ifCond .ne 10, 3) := by decide +kernel
theorem dX12_stuck_140 : decode cX12_stuck 140 = .ok (.iconst 1, 1) := by decide +kernel
theorem dX12_stuck_141 : decode cX12_stuck 141 = .ok (.iload 6, 2) := by decide +kernel
theorem dX12_stuck_143 : decode cX12_stuck 143 = .ok (.ishl, 1) := by decide +kernel
theorem dX12_stuck_144 : decode cX12_stuck 144 = .ok (.goto 4, 3) := by decide +kernel
theorem dX12_stuck_147 : decode cX12_stuck 147 = .ok (.iconst 0, 1) := by decide +kernel
theorem dX12_stuck_148 : decode cX12_stuck 148 = .ok (.ior, 1) := by decide +kernel
theorem dX12_stuck_149 : decode cX12_stuck 149 = .ok (.istore 4, 2) := by decide +kernel
theorem dX12_stuck_151 : decode cX12_stuck 151 = .ok (.iload 5, 2) := by decide +kernel
theorem dX12_stuck_153 : decode cX12_stuck 153 = .ok (.iload 9, 2) := by decide +kernel
theorem dX12_stuck_155 : decode cX12_stuck 155 = .ok (.ifCond .eq 10, 3) := by decide +kernel
theorem dX12_stuck_158 : decode cX12_stuck 158 = .ok (.iconst 1, 1) := by decide +kernel
theorem dX12_stuck_159 : decode cX12_stuck 159 = .ok (.iload 8, 2) := by decide +kernel
theorem dX12_stuck_161 : decode cX12_stuck 161 = .ok (.ishl, 1) := by decide +kernel
theorem dX12_stuck_162 : decode cX12_stuck 162 = .ok (.goto 4, 3) := by decide +kernel
theorem dX12_stuck_165 : decode cX12_stuck 165 = .ok (.iconst 0, 1) := by decide +kernel
theorem dX12_stuck_166 : decode cX12_stuck 166 = .ok (.ior, 1) := by decide +kernel
theorem dX12_stuck_167 : decode cX12_stuck 167 = .ok (.istore 5, 2) := by decide +kernel
theorem dX12_stuck_169 : decode cX12_stuck 169 = .ok (.iinc 8 1, 3) := by decide +kernel
theorem dX12_stuck_172 : decode cX12_stuck 172 = .ok (.goto (-114), 3) := by decide +kernel
theorem dX12_stuck_175 : decode cX12_stuck 175 = .ok (.iinc 6 1, 3) := by decide +kernel
theorem dX12_stuck_178 : decode cX12_stuck 178 = .ok (.goto (-148), 3) := by decide +kernel
theorem dX12_stuck_181 : decode cX12_stuck 181 = .ok (.iload_n 2, 1) := by decide +kernel
theorem dX12_stuck_182 : decode cX12_stuck 182 = .ok (.ifCond .ne 8, 3) := by decide +kernel
theorem dX12_stuck_185 : decode cX12_stuck 185 = .ok (.iload 4, 2) := by decide +kernel
theorem dX12_stuck_187 : decode cX12_stuck 187 = .ok (.goto 9, 3) := by decide +kernel
theorem dX12_stuck_190 : decode cX12_stuck 190 = .ok (.iload 5, 2) := by decide +kernel
theorem dX12_stuck_192 : decode cX12_stuck 192 = .ok (.iload_n 3, 1) := by decide +kernel
theorem dX12_stuck_193 : decode cX12_stuck 193 = .ok (.iconst (-1), 1) := by decide +kernel
theorem dX12_stuck_194 : decode cX12_stuck 194 = .ok (.ixor, 1) := by decide +kernel
theorem dX12_stuck_195 : decode cX12_stuck 195 = .ok (.iand, 1) := by decide +kernel
theorem dX12_stuck_196 : decode cX12_stuck 196 = .ok (.ireturn, 1) := by decide +kernel
theorem dX12_ought_0 : decode cX12_ought 0 = .ok (.aload_n 0, 1) := by decide +kernel
theorem dX12_ought_1 : decode cX12_ought 1 = .ok (.iload_n 1, 1) := by decide +kernel
theorem dX12_ought_2 : decode cX12_ought 2 = .ok (.invokevirtual 156, 3) := by decide +kernel
theorem dX12_ought_5 : decode cX12_ought 5 = .ok (.ifCond .eq 11, 3) := by decide +kernel
theorem dX12_ought_8 : decode cX12_ought 8 = .ok (.aload_n 0, 1) := by decide +kernel
theorem dX12_ought_9 : decode cX12_ought 9 = .ok (.iload_n 3, 1) := by decide +kernel
theorem dX12_ought_10 : decode cX12_ought 10 = .ok (.invokevirtual 60, 3) := by decide +kernel
theorem dX12_ought_13 : decode cX12_ought 13 = .ok (.ifCond .ne 5, 3) := by decide +kernel
theorem dX12_ought_16 : decode cX12_ought 16 = .ok (.iconst (-1), 1) := by decide +kernel
theorem dX12_ought_17 : decode cX12_ought 17 = .ok (.ireturn, 1) := by decide +kernel
theorem dX12_ought_18 : decode cX12_ought 18 = .ok (.iload_n 2, 1) := by decide +kernel
theorem dX12_ought_19 : decode cX12_ought 19 = .ok (.iconst 1, 1) := by decide +kernel
theorem dX12_ought_20 : decode cX12_ought 20 = .ok (.bipush 6, 2) := by decide +kernel
theorem dX12_ought_22 : decode cX12_ought 22 = .ok (.invokestatic 48, 3) := by decide +kernel
theorem dX12_ought_25 : decode cX12_ought 25 = .ok (.ifCond .ne 6, 3) := by decide +kernel
theorem dX12_ought_28 : decode cX12_ought 28 = .ok (.bipush (-2), 2) := by decide +kernel
theorem dX12_ought_30 : decode cX12_ought 30 = .ok (.ireturn, 1) := by decide +kernel
theorem dX12_ought_31 : decode cX12_ought 31 = .ok (.aload_n 0, 1) := by decide +kernel
theorem dX12_ought_32 : decode cX12_ought 32 = .ok (.getfield 9, 3) := by decide +kernel
theorem dX12_ought_35 : decode cX12_ought 35 = .ok (.bipush 6, 2) := by decide +kernel
theorem dX12_ought_37 : decode cX12_ought 37 = .ok (.iaload, 1) := by decide +kernel
theorem dX12_ought_38 : decode cX12_ought 38 = .ok (.aload_n 0, 1) := by decide +kernel
theorem dX12_ought_39 : decode cX12_ought 39 = .ok (.getfield 9, 3) := by decide +kernel
theorem dX12_ought_42 : decode cX12_ought 42 = .ok (.iconst 0, 1) := by decide +kernel
theorem dX12_ought_43 : decode cX12_ought 43 = .ok (.iaload, 1) := by decide +kernel
theorem dX12_ought_44 : decode cX12_ought 44 = .ok (.iconst 1, 1) := by decide +kernel
theorem dX12_ought_45 : decode cX12_ought 45 = .ok (.isub, 1) := by decide +kernel
theorem dX12_ought_46 : decode cX12_ought 46 = .ok (.aload_n 0, 1) := by decide +kernel
theorem dX12_ought_47 : decode cX12_ought 47 = .ok (.getfield 9, 3) := by decide +kernel
theorem dX12_ought_50 : decode cX12_ought 50 = .ok (.iconst 2, 1) := by decide +kernel
theorem dX12_ought_51 : decode cX12_ought 51 = .ok (.iaload, 1) := by decide +kernel
theorem dX12_ought_52 : decode cX12_ought 52 = .ok (.aload_n 0, 1) := by decide +kernel
theorem dX12_ought_53 : decode cX12_ought 53 = .ok (.getfield 9, 3) := by decide +kernel
theorem dX12_ought_56 : decode cX12_ought 56 = .ok (.iconst 0, 1) := by decide +kernel
theorem dX12_ought_57 : decode cX12_ought 57 = .ok (.iaload, 1) := by decide +kernel
theorem dX12_ought_58 : decode cX12_ought 58 = .ok (.irem, 1) := by decide +kernel
theorem dX12_ought_59 : decode cX12_ought 59 = .ok (.isub, 1) := by decide +kernel
theorem dX12_ought_60 : decode cX12_ought 60 = .ok (.invokestatic 52, 3) := by decide +kernel
theorem dX12_ought_63 : decode cX12_ought 63 = .ok (.iload_n 3, 1) := by decide +kernel
theorem dX12_ought_64 : decode cX12_ought 64 = .ok (.if_icmp .eq 6, 3) := by decide +kernel
theorem dX12_ought_67 : decode cX12_ought 67 = .ok (.bipush (-3), 2) := by decide +kernel
theorem dX12_ought_69 : decode cX12_ought 69 = .ok (.ireturn, 1) := by decide +kernel
theorem dX12_ought_70 : decode cX12_ought 70 = .ok (.aload_n 0, 1) := by decide +kernel
theorem dX12_ought_71 : decode cX12_ought 71 = .ok (.iload_n 1, 1) := by decide +kernel
theorem dX12_ought_72 : decode cX12_ought 72 = .ok (.aload_n 0, 1) := by decide +kernel
theorem dX12_ought_73 : decode cX12_ought 73 = .ok (.getfield 9, 3) := by decide +kernel
theorem dX12_ought_76 : decode cX12_ought 76 = .ok (.bipush 6, 2) := by decide +kernel
theorem dX12_ought_78 : decode cX12_ought 78 = .ok (.iaload, 1) := by decide +kernel
theorem dX12_ought_79 : decode cX12_ought 79 = .ok (.iload_n 3, 1) := by decide +kernel
theorem dX12_ought_80 : decode cX12_ought 80 = .ok (.aload_n 0, 1) := by decide +kernel
theorem dX12_ought_81 : decode cX12_ought 81 = .ok (.getfield 9, 3) := by decide +kernel
theorem dX12_ought_84 : decode cX12_ought 84 = .ok (.iconst 2, 1) := by decide +kernel
theorem dX12_ought_85 : decode cX12_ought 85 = .ok (.iaload, 1) := by decide +kernel
theorem dX12_ought_86 : decode cX12_ought 86 = .ok (.invokevirtual 162, 3) := by decide +kernel
theorem dX12_ought_89 : decode cX12_ought 89 = .ok (.istore 4, 2) := by decide +kernel
theorem dX12_ought_91 : decode cX12_ought 91 = .ok (.aload_n 0, 1) := by decide +kernel
theorem dX12_ought_92 : decode cX12_ought 92 = .ok (.iload_n 1, 1) := by decide +kernel
theorem dX12_ought_93 : decode cX12_ought 93 = .ok (.aload_n 0, 1) := by decide +kernel
theorem dX12_ought_94 : decode cX12_ought 94 = .ok (.getfield 9, 3) := by decide +kernel
theorem dX12_ought_97 : decode cX12_ought 97 = .ok (.bipush 6, 2) := by decide +kernel
theorem dX12_ought_99 : decode cX12_ought 99 = .ok (.iaload, 1) := by decide +kernel
theorem dX12_ought_100 : decode cX12_ought 100 = .ok (.iload_n 2, 1) := by decide +kernel
theorem dX12_ought_101 : decode cX12_ought 101 = .ok (.bipush (-5), 2) := by decide +kernel
theorem dX12_ought_103 : decode cX12_ought 103 = .ok (.invokevirtual 201, 3) := by decide +kernel
theorem dX12_ought_106 : decode cX12_ought 106 = .ok (.bipush (-5), 2) := by decide +kernel
theorem dX12_ought_108 : decode cX12_ought 108 = .ok (.istore 5, 2) := by decide +kernel
theorem dX12_ought_110 : decode cX12_ought 110 = .ok (.aload_n 0, 1) := by decide +kernel
theorem dX12_ought_111 : decode cX12_ought 111 = .ok (.iload_n 3, 1) := by decide +kernel
theorem dX12_ought_112 : decode cX12_ought 112 = .ok (.invokevirtual 216, 3) := by decide +kernel
theorem dX12_ought_115 : decode cX12_ought 115 = .ok (.lstore 6, 2) := by decide +kernel
theorem dX12_ought_117 : decode cX12_ought 117 = .ok (.iconst 0, 1) := by decide +kernel
theorem dX12_ought_118 : decode cX12_ought 118 = .ok (.istore 8, 2) := by decide +kernel
theorem dX12_ought_120 : decode cX12_ought 120 = .ok (.iload 8, 2) := by decide +kernel
theorem dX12_ought_122 : decode cX12_ought 122 = .ok (.aload_n 0, 1) := by decide +kernel
theorem dX12_ought_123 : decode cX12_ought 123 = .ok (.getfield 9, 3) := by decide +kernel
theorem dX12_ought_126 : decode cX12_ought 126 = .ok (.iconst 0, 1) := by decide +kernel
theorem dX12_ought_127 : decode cX12_ought 127 = .ok (.iaload, 1) := by decide +kernel
theorem dX12_ought_128 : decode cX12_ought 128 = .ok (.if_icmp .ge 76, 3) := by decide +kernel
theorem dX12_ought_131 : decode cX12_ought 131 = .ok (.iload 4, 2) := by decide +kernel
theorem dX12_ought_133 : decode cX12_ought 133 = .ok (.iload 8, 2) := by decide +kernel
theorem dX12_ought_135 : decode cX12_ought 135 = .ok (.ishr, 1) := by decide +kernel
theorem dX12_ought_136 : decode cX12_ought 136 = .ok (.iconst 1, 1) := by decide +kernel
theorem dX12_ought_137 : decode cX12_ought 137 = .ok (.iand, 1) := by decide +kernel
theorem dX12_ought_138 : decode cX12_ought 138 = .ok (.iconst 1, 1) := by decide +kernel
theorem dX12_ought_139 : decode cX12_ought 139 = .ok (.if_icmp .ne 59, 3) := by decide +kernel
theorem dX12_ought_142 : decode cX12_ought 142 = .ok (.aload_n 0, 1) := by decide +kernel
theorem dX12_ought_143 : decode cX12_ought 143 = .ok (.iload_n 1, 1) := by decide +kernel
theorem dX12_ought_144 : decode cX12_ought 144 = .ok (.aload_n 0, 1) := by decide +kernel
theorem dX12_ought_145 : decode cX12_ought 145 = .ok (.getfield 9, 3) := by decide +kernel
theorem dX12_ought_148 : decode cX12_ought 148 = .ok (.bipush 6, 2) := by decide +kernel
theorem dX12_ought_150 : decode cX12_ought 150 = .ok (.iaload, 1) := by decide +kernel
theorem dX12_ought_151 : decode cX12_ought 151 = .ok (.iload_n 2, 1) := by decide +kernel
theorem dX12_ought_152 : decode cX12_ought 152 = .ok (.iload 8, 2) := by decide +kernel
theorem dX12_ought_154 : decode cX12_ought 154 = .ok (.invokevirtual 201, 3) := by decide +kernel
theorem dX12_ought_157 : decode cX12_ought 157 = .ok (.aload_n 0, 1) := by decide +kernel
theorem dX12_ought_158 : decode cX12_ought 158 = .ok (.iload_n 3, 1) := by decide +kernel
theorem dX12_ought_159 : decode cX12_ought 159 = .ok (.invokevirtual 216, 3) := by decide +kernel
theorem dX12_ought_162 : decode cX12_ought 162 = .ok (.lstore 9, 2) := by decide +kernel
theorem dX12_ought_164 : decode cX12_ought 164 = .ok (.lload 9, 2) := by decide +kernel
theorem dX12_ought_166 : decode cX12_ought 166 = .ok (.lload 6, 2) := by decide +kernel
theorem dX12_ought_168 : decode cX12_ought 168 = .ok (.lcmp, 1) := by decide +kernel
theorem dX12_ought_169 : decode cX12_ought 169 = .ok (.ifCond .ge 8, 3) := by decide +kernel
theorem dX12_ought_172 : decode cX12_ought 172 = .ok (.iload 8, 2) := by decide +kernel
theorem dX12_ought_174 : decode cX12_ought 174 = .ok (.goto 5, 3) := by decide +kernel
theorem dX12_ought_177 : decode cX12_ought 177 = .ok (.iload 5, 2) := by decide +kernel
theorem dX12_ought_179 : decode cX12_ought 179 = .ok (.istore 5, 2) := by decide +kernel
theorem dX12_ought_181 : decode cX12_ought 181 = .ok (.lload 9, 2) := by decide +kernel
theorem dX12_ought_183 : decode cX12_ought 183 = .ok (.lload 6, 2) := by decide +kernel
theorem dX12_ought_185 : decode cX12_ought 185 = .ok (.lcmp, 1) := by decide +kernel
theorem dX12_ought_186 : decode cX12_ought 186 = .ok (.ifCond .ge 8, 3) := by decide +kernel
theorem dX12_ought_189 : decode cX12_ought 189 = .ok (.lload 9, 2) := by decide +kernel
theorem dX12_ought_191 : decode cX12_ought 191 = .ok (.goto 5, 3) := by decide +kernel
theorem dX12_ought_194 : decode cX12_ought 194 = .ok (.lload 6, 2) := by decide +kernel
theorem dX12_ought_196 : decode cX12_ought 196 = .ok (.lstore 6, 2) := by decide +kernel
theorem dX12_ought_198 : decode cX12_ought 198 = .ok (.iinc 8 1, 3) := by decide +kernel
theorem dX12_ought_201 : decode cX12_ought 201 = .ok (.goto (-81), 3) := by decide +kernel
theorem dX12_ought_204 : decode cX12_ought 204 = .ok (.iload 5, 2) := by decide +kernel
theorem dX12_ought_206 : decode cX12_ought 206 = .ok (.ireturn, 1) := by decide +kernel
theorem dX12_row_0 : decode cX12_row 0 = .ok (.iload_n 1, 1) := by decide +kernel
theorem dX12_row_1 : decode cX12_row 1 = .ok (.bipush (-2), 2) := by decide +kernel
theorem dX12_row_3 : decode cX12_row 3 = .ok (.if_icmp .ne 12, 3) := by decide +kernel
theorem dX12_row_6 : decode cX12_row 6 = .ok (.aload_n 0, 1) := by decide +kernel
theorem dX12_row_7 : decode cX12_row 7 = .ok (.getfield 9, 3) := by decide +kernel
theorem dX12_row_10 : decode cX12_row 10 = .ok (.iconst 4, 1) := by decide +kernel
theorem dX12_row_11 : decode cX12_row 11 = .ok (.iconst 0, 1) := by decide +kernel
theorem dX12_row_12 : decode cX12_row 12 = .ok (.iastore, 1) := by decide +kernel
theorem dX12_row_13 : decode cX12_row 13 = .ok (.iconst 0, 1) := by decide +kernel
theorem dX12_row_14 : decode cX12_row 14 = .ok (.ireturn, 1) := by decide +kernel
theorem dX12_row_15 : decode cX12_row 15 = .ok (.iload_n 1, 1) := by decide +kernel
theorem dX12_row_16 : decode cX12_row 16 = .ok (.iconst (-1), 1) := by decide +kernel
theorem dX12_row_17 : decode cX12_row 17 = .ok (.iconst 5, 1) := by decide +kernel
theorem dX12_row_18 : decode cX12_row 18 = .ok (.invokestatic 48, 3) := by decide +kernel
theorem dX12_row_21 : decode cX12_row 21 = .ok (.ifCond .ne 6, 3) := by decide +kernel
theorem dX12_row_24 : decode cX12_row 24 = .ok (.bipush (-2), 2) := by decide +kernel
theorem dX12_row_26 : decode cX12_row 26 = .ok (.ireturn, 1) := by decide +kernel
theorem dX12_row_27 : decode cX12_row 27 = .ok (.aload_n 0, 1) := by decide +kernel
theorem dX12_row_28 : decode cX12_row 28 = .ok (.getfield 9, 3) := by decide +kernel
theorem dX12_row_31 : decode cX12_row 31 = .ok (.iconst 4, 1) := by decide +kernel
theorem dX12_row_32 : decode cX12_row 32 = .ok (.iaload, 1) := by decide +kernel
theorem dX12_row_33 : decode cX12_row 33 = .ok (.bipush 6, 2) := by decide +kernel
theorem dX12_row_35 : decode cX12_row 35 = .ok (.if_icmp .ne 6, 3) := by decide +kernel
theorem dX12_row_38 : decode cX12_row 38 = .ok (.bipush (-4), 2) := by decide +kernel
theorem dX12_row_40 : decode cX12_row 40 = .ok (.ireturn, 1) := by decide +kernel
theorem dX12_row_41 : decode cX12_row 41 = .ok (.aload_n 0, 1) := by decide +kernel
theorem dX12_row_42 : decode cX12_row 42 = .ok (.getfield 9, 3) := by decide +kernel
theorem dX12_row_45 : decode cX12_row 45 = .ok (.sipush 923, 3) := by decide +kernel
theorem dX12_row_48 : decode cX12_row 48 = .ok (.aload_n 0, 1) := by decide +kernel
theorem dX12_row_49 : decode cX12_row 49 = .ok (.getfield 9, 3) := by decide +kernel
theorem dX12_row_52 : decode cX12_row 52 = .ok (.iconst 4, 1) := by decide +kernel
theorem dX12_row_53 : decode cX12_row 53 = .ok (.iaload, 1) := by decide +kernel
theorem dX12_row_54 : decode cX12_row 54 = .ok (.iadd, 1) := by decide +kernel
theorem dX12_row_55 : decode cX12_row 55 = .ok (.iload_n 1, 1) := by decide +kernel
theorem dX12_row_56 : decode cX12_row 56 = .ok (.iastore, 1) := by decide +kernel
theorem dX12_row_57 : decode cX12_row 57 = .ok (.aload_n 0, 1) := by decide +kernel
theorem dX12_row_58 : decode cX12_row 58 = .ok (.getfield 9, 3) := by decide +kernel
theorem dX12_row_61 : decode cX12_row 61 = .ok (.iconst 4, 1) := by decide +kernel
theorem dX12_row_62 : decode cX12_row 62 = .ok (.dup2, 1) := by decide +kernel
theorem dX12_row_63 : decode cX12_row 63 = .ok (.iaload, 1) := by decide +kernel
theorem dX12_row_64 : decode cX12_row 64 = .ok (.iconst 1, 1) := by decide +kernel
theorem dX12_row_65 : decode cX12_row 65 = .ok (.iadd, 1) := by decide +kernel
theorem dX12_row_66 : decode cX12_row 66 = .ok (.iastore, 1) := by decide +kernel
theorem dX12_row_67 : decode cX12_row 67 = .ok (.aload_n 0, 1) := by decide +kernel
theorem dX12_row_68 : decode cX12_row 68 = .ok (.getfield 9, 3) := by decide +kernel
theorem dX12_row_71 : decode cX12_row 71 = .ok (.iconst 4, 1) := by decide +kernel
theorem dX12_row_72 : decode cX12_row 72 = .ok (.iaload, 1) := by decide +kernel
theorem dX12_row_73 : decode cX12_row 73 = .ok (.ireturn, 1) := by decide +kernel
theorem dX12_judged_0 : decode cX12_judged 0 = .ok (.aload_n 0, 1) := by decide +kernel
theorem dX12_judged_1 : decode cX12_judged 1 = .ok (.iload_n 1, 1) := by decide +kernel
theorem dX12_judged_2 : decode cX12_judged 2 = .ok (.invokevirtual 156, 3) := by decide +kernel
theorem dX12_judged_5 : decode cX12_judged 5 = .ok (.ifCond .ne 5, 3) := by decide +kernel
theorem dX12_judged_8 : decode cX12_judged 8 = .ok (.iconst (-1), 1) := by decide +kernel
theorem dX12_judged_9 : decode cX12_judged 9 = .ok (.ireturn, 1) := by decide +kernel
theorem dX12_judged_10 : decode cX12_judged 10 = .ok (.iload_n 2, 1) := by decide +kernel
theorem dX12_judged_11 : decode cX12_judged 11 = .ok (.invokestatic 159, 3) := by decide +kernel
theorem dX12_judged_14 : decode cX12_judged 14 = .ok (.ifCond .ne 6, 3) := by decide +kernel
theorem dX12_judged_17 : decode cX12_judged 17 = .ok (.bipush (-2), 2) := by decide +kernel
theorem dX12_judged_19 : decode cX12_judged 19 = .ok (.ireturn, 1) := by decide +kernel
theorem dX12_judged_20 : decode cX12_judged 20 = .ok (.aload_n 0, 1) := by decide +kernel
theorem dX12_judged_21 : decode cX12_judged 21 = .ok (.getfield 9, 3) := by decide +kernel
theorem dX12_judged_24 : decode cX12_judged 24 = .ok (.iconst 4, 1) := by decide +kernel
theorem dX12_judged_25 : decode cX12_judged 25 = .ok (.iaload, 1) := by decide +kernel
theorem dX12_judged_26 : decode cX12_judged 26 = .ok (.aload_n 0, 1) := by decide +kernel
theorem dX12_judged_27 : decode cX12_judged 27 = .ok (.getfield 9, 3) := by decide +kernel
theorem dX12_judged_30 : decode cX12_judged 30 = .ok (.iconst 0, 1) := by decide +kernel
theorem dX12_judged_31 : decode cX12_judged 31 = .ok (.iaload, 1) := by decide +kernel
theorem dX12_judged_32 : decode cX12_judged 32 = .ok (.if_icmp .eq 6, 3) := by decide +kernel
theorem dX12_judged_35 : decode cX12_judged 35 = .ok (.bipush (-3), 2) := by decide +kernel
theorem dX12_judged_37 : decode cX12_judged 37 = .ok (.ireturn, 1) := by decide +kernel
theorem dX12_judged_38 : decode cX12_judged 38 = .ok (.iconst 0, 1) := by decide +kernel
theorem dX12_judged_39 : decode cX12_judged 39 = .ok (.istore_n 3, 1) := by decide +kernel
theorem dX12_judged_40 : decode cX12_judged 40 = .ok (.iload_n 3, 1) := by decide +kernel
theorem dX12_judged_41 : decode cX12_judged 41 = .ok (.aload_n 0, 1) := by decide +kernel
theorem dX12_judged_42 : decode cX12_judged 42 = .ok (.getfield 9, 3) := by decide +kernel
theorem dX12_judged_45 : decode cX12_judged 45 = .ok (.iconst 0, 1) := by decide +kernel
theorem dX12_judged_46 : decode cX12_judged 46 = .ok (.iaload, 1) := by decide +kernel
theorem dX12_judged_47 : decode cX12_judged 47 = .ok (.if_icmp .ge 53, 3) := by decide +kernel
theorem dX12_judged_50 : decode cX12_judged 50 = .ok (.aload_n 0, 1) := by decide +kernel
theorem dX12_judged_51 : decode cX12_judged 51 = .ok (.iload_n 1, 1) := by decide +kernel
theorem dX12_judged_52 : decode cX12_judged 52 = .ok (.aload_n 0, 1) := by decide +kernel
theorem dX12_judged_53 : decode cX12_judged 53 = .ok (.getfield 9, 3) := by decide +kernel
theorem dX12_judged_56 : decode cX12_judged 56 = .ok (.bipush 6, 2) := by decide +kernel
theorem dX12_judged_58 : decode cX12_judged 58 = .ok (.iaload, 1) := by decide +kernel
theorem dX12_judged_59 : decode cX12_judged 59 = .ok (.iload_n 3, 1) := by decide +kernel
theorem dX12_judged_60 : decode cX12_judged 60 = .ok (.iload_n 2, 1) := by decide +kernel
theorem dX12_judged_61 : decode cX12_judged 61 = .ok (.invokevirtual 169, 3) := by decide +kernel
theorem dX12_judged_64 : decode cX12_judged 64 = .ok (.istore 4, 2) := by decide +kernel
theorem dX12_judged_66 : decode cX12_judged 66 = .ok (.iload 4, 2) := by decide +kernel
theorem dX12_judged_68 : decode cX12_judged 68 = .ok (.bipush (-5), 2) := by decide +kernel
theorem dX12_judged_70 : decode cX12_judged 70 = .ok (.if_icmp .ne 7, 3) := by decide +kernel
theorem dX12_judged_73 : decode cX12_judged 73 = .ok (.iconst (-1), 1) := by decide +kernel
theorem dX12_judged_74 : decode cX12_judged 74 = .ok (.goto 5, 3) := by decide +kernel
theorem dX12_judged_77 : decode cX12_judged 77 = .ok (.iload 4, 2) := by decide +kernel
theorem dX12_judged_79 : decode cX12_judged 79 = .ok (.aload_n 0, 1) := by decide +kernel
theorem dX12_judged_80 : decode cX12_judged 80 = .ok (.getfield 9, 3) := by decide +kernel
theorem dX12_judged_83 : decode cX12_judged 83 = .ok (.sipush 923, 3) := by decide +kernel
theorem dX12_judged_86 : decode cX12_judged 86 = .ok (.iload_n 3, 1) := by decide +kernel
theorem dX12_judged_87 : decode cX12_judged 87 = .ok (.iadd, 1) := by decide +kernel
theorem dX12_judged_88 : decode cX12_judged 88 = .ok (.iaload, 1) := by decide +kernel
theorem dX12_judged_89 : decode cX12_judged 89 = .ok (.if_icmp .eq 5, 3) := by decide +kernel
theorem dX12_judged_92 : decode cX12_judged 92 = .ok (.iload_n 3, 1) := by decide +kernel
theorem dX12_judged_93 : decode cX12_judged 93 = .ok (.ireturn, 1) := by decide +kernel
theorem dX12_judged_94 : decode cX12_judged 94 = .ok (.iinc 3 1, 3) := by decide +kernel
theorem dX12_judged_97 : decode cX12_judged 97 = .ok (.goto (-57), 3) := by decide +kernel
theorem dX12_judged_100 : decode cX12_judged 100 = .ok (.bipush (-5), 2) := by decide +kernel
theorem dX12_judged_102 : decode cX12_judged 102 = .ok (.ireturn, 1) := by decide +kernel
theorem dX12_refuse_0 : decode cX12_refuse 0 = .ok (.aload_n 0, 1) := by decide +kernel
theorem dX12_refuse_1 : decode cX12_refuse 1 = .ok (.iload_n 1, 1) := by decide +kernel
theorem dX12_refuse_2 : decode cX12_refuse 2 = .ok (.invokevirtual 156, 3) := by decide +kernel
theorem dX12_refuse_5 : decode cX12_refuse 5 = .ok (.ifCond .eq 31, 3) := by decide +kernel
theorem dX12_refuse_8 : decode cX12_refuse 8 = .ok (.iload_n 2, 1) := by decide +kernel
theorem dX12_refuse_9 : decode cX12_refuse 9 = .ok (.iconst 0, 1) := by decide +kernel
theorem dX12_refuse_10 : decode cX12_refuse 10 = .ok (.bipush 6, 2) := by decide +kernel
theorem dX12_refuse_12 : decode cX12_refuse 12 = .ok (.invokestatic 48, 3) := by decide +kernel
theorem dX12_refuse_15 : decode cX12_refuse 15 = .ok (.ifCond .eq 21, 3) := by decide +kernel
theorem dX12_refuse_18 : decode cX12_refuse 18 = .ok (.aload_n 0, 1) := by decide +kernel
theorem dX12_refuse_19 : decode cX12_refuse 19 = .ok (.iload_n 3, 1) := by decide +kernel
theorem dX12_refuse_20 : decode cX12_refuse 20 = .ok (.invokevirtual 60, 3) := by decide +kernel
theorem dX12_refuse_23 : decode cX12_refuse 23 = .ok (.ifCond .eq 13, 3) := by decide +kernel
theorem dX12_refuse_26 : decode cX12_refuse 26 = .ok (.iload 4, 2) := by decide +kernel
theorem dX12_refuse_28 : decode cX12_refuse 28 = .ok (.iconst 0, 1) := by decide +kernel
theorem dX12_refuse_29 : decode cX12_refuse 29 = .ok (.iconst 1, 1) := by decide +kernel
theorem dX12_refuse_30 : decode cX12_refuse 30 = .ok (.invokestatic 48, 3) := by decide +kernel
theorem dX12_refuse_33 : decode cX12_refuse 33 = .ok (.ifCond .ne 7, 3) := by decide +kernel
theorem dX12_refuse_36 : decode cX12_refuse 36 = .ok (.ldc2_w 199, 3) := by decide +kernel
theorem dX12_refuse_39 : decode cX12_refuse 39 = .ok (.lreturn, 1) := by decide +kernel
theorem dX12_refuse_40 : decode cX12_refuse 40 = .ok (.aload_n 0, 1) := by decide +kernel
theorem dX12_refuse_41 : decode cX12_refuse 41 = .ok (.iload_n 1, 1) := by decide +kernel
theorem dX12_refuse_42 : decode cX12_refuse 42 = .ok (.aload_n 0, 1) := by decide +kernel
theorem dX12_refuse_43 : decode cX12_refuse 43 = .ok (.getfield 9, 3) := by decide +kernel
theorem dX12_refuse_46 : decode cX12_refuse 46 = .ok (.bipush 6, 2) := by decide +kernel
theorem dX12_refuse_48 : decode cX12_refuse 48 = .ok (.iaload, 1) := by decide +kernel
theorem dX12_refuse_49 : decode cX12_refuse 49 = .ok (.iload_n 2, 1) := by decide +kernel
theorem dX12_refuse_50 : decode cX12_refuse 50 = .ok (.bipush (-7), 2) := by decide +kernel
theorem dX12_refuse_52 : decode cX12_refuse 52 = .ok (.invokevirtual 201, 3) := by decide +kernel
theorem dX12_refuse_55 : decode cX12_refuse 55 = .ok (.aload_n 0, 1) := by decide +kernel
theorem dX12_refuse_56 : decode cX12_refuse 56 = .ok (.iload_n 3, 1) := by decide +kernel
theorem dX12_refuse_57 : decode cX12_refuse 57 = .ok (.invokevirtual 216, 3) := by decide +kernel
theorem dX12_refuse_60 : decode cX12_refuse 60 = .ok (.lstore 5, 2) := by decide +kernel
theorem dX12_refuse_62 : decode cX12_refuse 62 = .ok (.aload_n 0, 1) := by decide +kernel
theorem dX12_refuse_63 : decode cX12_refuse 63 = .ok (.iload_n 3, 1) := by decide +kernel
theorem dX12_refuse_64 : decode cX12_refuse 64 = .ok (.putfield 25, 3) := by decide +kernel
theorem dX12_refuse_67 : decode cX12_refuse 67 = .ok (.aload_n 0, 1) := by decide +kernel
theorem dX12_refuse_68 : decode cX12_refuse 68 = .ok (.iload_n 1, 1) := by decide +kernel
theorem dX12_refuse_69 : decode cX12_refuse 69 = .ok (.aload_n 0, 1) := by decide +kernel
theorem dX12_refuse_70 : decode cX12_refuse 70 = .ok (.getfield 9, 3) := by decide +kernel
theorem dX12_refuse_73 : decode cX12_refuse 73 = .ok (.bipush 6, 2) := by decide +kernel
theorem dX12_refuse_75 : decode cX12_refuse 75 = .ok (.iaload, 1) := by decide +kernel
theorem dX12_refuse_76 : decode cX12_refuse 76 = .ok (.iload_n 2, 1) := by decide +kernel
theorem dX12_refuse_77 : decode cX12_refuse 77 = .ok (.bipush (-7), 2) := by decide +kernel
theorem dX12_refuse_79 : decode cX12_refuse 79 = .ok (.invokevirtual 201, 3) := by decide +kernel
theorem dX12_refuse_82 : decode cX12_refuse 82 = .ok (.aload_n 0, 1) := by decide +kernel
theorem dX12_refuse_83 : decode cX12_refuse 83 = .ok (.iconst (-1), 1) := by decide +kernel
theorem dX12_refuse_84 : decode cX12_refuse 84 = .ok (.putfield 25, 3) := by decide +kernel
theorem dX12_refuse_87 : decode cX12_refuse 87 = .ok (.lload 5, 2) := by decide +kernel
theorem dX12_refuse_89 : decode cX12_refuse 89 = .ok (.aload_n 0, 1) := by decide +kernel
theorem dX12_refuse_90 : decode cX12_refuse 90 = .ok (.iload_n 3, 1) := by decide +kernel
theorem dX12_refuse_91 : decode cX12_refuse 91 = .ok (.invokevirtual 216, 3) := by decide +kernel
theorem dX12_refuse_94 : decode cX12_refuse 94 = .ok (.lsub, 1) := by decide +kernel
theorem dX12_refuse_95 : decode cX12_refuse 95 = .ok (.aload_n 0, 1) := by decide +kernel
theorem dX12_refuse_96 : decode cX12_refuse 96 = .ok (.getfield 185, 3) := by decide +kernel
theorem dX12_refuse_99 : decode cX12_refuse 99 = .ok (.iload 4, 2) := by decide +kernel
theorem dX12_refuse_101 : decode cX12_refuse 101 = .ok (.invokestatic 205, 3) := by decide +kernel
theorem dX12_refuse_104 : decode cX12_refuse 104 = .ok (.lreturn, 1) := by decide +kernel
theorem dX12_begin_0 : decode cX12_begin 0 = .ok (.aload_n 0, 1) := by decide +kernel
theorem dX12_begin_1 : decode cX12_begin 1 = .ok (.iload_n 1, 1) := by decide +kernel
theorem dX12_begin_2 : decode cX12_begin 2 = .ok (.invokevirtual 156, 3) := by decide +kernel
theorem dX12_begin_5 : decode cX12_begin 5 = .ok (.ifCond .eq 11, 3) := by decide +kernel
theorem dX12_begin_8 : decode cX12_begin 8 = .ok (.aload_n 0, 1) := by decide +kernel
theorem dX12_begin_9 : decode cX12_begin 9 = .ok (.iload_n 3, 1) := by decide +kernel
theorem dX12_begin_10 : decode cX12_begin 10 = .ok (.invokevirtual 60, 3) := by decide +kernel
theorem dX12_begin_13 : decode cX12_begin 13 = .ok (.ifCond .ne 5, 3) := by decide +kernel
theorem dX12_begin_16 : decode cX12_begin 16 = .ok (.iconst (-1), 1) := by decide +kernel
theorem dX12_begin_17 : decode cX12_begin 17 = .ok (.ireturn, 1) := by decide +kernel
theorem dX12_begin_18 : decode cX12_begin 18 = .ok (.iload_n 2, 1) := by decide +kernel
theorem dX12_begin_19 : decode cX12_begin 19 = .ok (.iconst 0, 1) := by decide +kernel
theorem dX12_begin_20 : decode cX12_begin 20 = .ok (.bipush 6, 2) := by decide +kernel
theorem dX12_begin_22 : decode cX12_begin 22 = .ok (.invokestatic 48, 3) := by decide +kernel
theorem dX12_begin_25 : decode cX12_begin 25 = .ok (.ifCond .ne 6, 3) := by decide +kernel
theorem dX12_begin_28 : decode cX12_begin 28 = .ok (.bipush (-2), 2) := by decide +kernel
theorem dX12_begin_30 : decode cX12_begin 30 = .ok (.ireturn, 1) := by decide +kernel
theorem dX12_begin_31 : decode cX12_begin 31 = .ok (.iconst 0, 1) := by decide +kernel
theorem dX12_begin_32 : decode cX12_begin 32 = .ok (.istore 4, 2) := by decide +kernel
theorem dX12_begin_34 : decode cX12_begin 34 = .ok (.ldc2_w 223, 3) := by decide +kernel
theorem dX12_begin_37 : decode cX12_begin 37 = .ok (.lstore 5, 2) := by decide +kernel
theorem dX12_begin_39 : decode cX12_begin 39 = .ok (.iconst 0, 1) := by decide +kernel
theorem dX12_begin_40 : decode cX12_begin 40 = .ok (.istore 7, 2) := by decide +kernel
theorem dX12_begin_42 : decode cX12_begin 42 = .ok (.iload 7, 2) := by decide +kernel
theorem dX12_begin_44 : decode cX12_begin 44 = .ok (.aload_n 0, 1) := by decide +kernel
theorem dX12_begin_45 : decode cX12_begin 45 = .ok (.getfield 9, 3) := by decide +kernel
theorem dX12_begin_48 : decode cX12_begin 48 = .ok (.iconst 0, 1) := by decide +kernel
theorem dX12_begin_49 : decode cX12_begin 49 = .ok (.iaload, 1) := by decide +kernel
theorem dX12_begin_50 : decode cX12_begin 50 = .ok (.if_icmp .ge 71, 3) := by decide +kernel
theorem dX12_begin_53 : decode cX12_begin 53 = .ok (.aload_n 0, 1) := by decide +kernel
theorem dX12_begin_54 : decode cX12_begin 54 = .ok (.iload_n 1, 1) := by decide +kernel
theorem dX12_begin_55 : decode cX12_begin 55 = .ok (.aload_n 0, 1) := by decide +kernel
theorem dX12_begin_56 : decode cX12_begin 56 = .ok (.aload_n 0, 1) := by decide +kernel
theorem dX12_begin_57 : decode cX12_begin 57 = .ok (.getfield 9, 3) := by decide +kernel
theorem dX12_begin_60 : decode cX12_begin 60 = .ok (.bipush 6, 2) := by decide +kernel
theorem dX12_begin_62 : decode cX12_begin 62 = .ok (.iaload, 1) := by decide +kernel
theorem dX12_begin_63 : decode cX12_begin 63 = .ok (.iload_n 3, 1) := by decide +kernel
theorem dX12_begin_64 : decode cX12_begin 64 = .ok (.iload 7, 2) := by decide +kernel
theorem dX12_begin_66 : decode cX12_begin 66 = .ok (.invokevirtual 71, 3) := by decide +kernel
theorem dX12_begin_69 : decode cX12_begin 69 = .ok (.iload_n 2, 1) := by decide +kernel
theorem dX12_begin_70 : decode cX12_begin 70 = .ok (.bipush (-7), 2) := by decide +kernel
theorem dX12_begin_72 : decode cX12_begin 72 = .ok (.invokevirtual 201, 3) := by decide +kernel
theorem dX12_begin_75 : decode cX12_begin 75 = .ok (.aload_n 0, 1) := by decide +kernel
theorem dX12_begin_76 : decode cX12_begin 76 = .ok (.invokevirtual 209, 3) := by decide +kernel
theorem dX12_begin_79 : decode cX12_begin 79 = .ok (.lstore 8, 2) := by decide +kernel
theorem dX12_begin_81 : decode cX12_begin 81 = .ok (.lload 8, 2) := by decide +kernel
theorem dX12_begin_83 : decode cX12_begin 83 = .ok (.lload 5, 2) := by decide +kernel
theorem dX12_begin_85 : decode cX12_begin 85 = .ok (.lcmp, 1) := by decide +kernel
theorem dX12_begin_86 : decode cX12_begin 86 = .ok (.ifCond .le 8, 3) := by decide +kernel
theorem dX12_begin_89 : decode cX12_begin 89 = .ok (.iload 7, 2) := by decide +kernel
theorem dX12_begin_91 : decode cX12_begin 91 = .ok (.goto 5, 3) := by decide +kernel
theorem dX12_begin_94 : decode cX12_begin 94 = .ok (.iload 4, 2) := by decide +kernel
theorem dX12_begin_96 : decode cX12_begin 96 = .ok (.istore 4, 2) := by decide +kernel
theorem dX12_begin_98 : decode cX12_begin 98 = .ok (.lload 8, 2) := by decide +kernel
theorem dX12_begin_100 : decode cX12_begin 100 = .ok (.lload 5, 2) := by decide +kernel
theorem dX12_begin_102 : decode cX12_begin 102 = .ok (.lcmp, 1) := by decide +kernel
theorem dX12_begin_103 : decode cX12_begin 103 = .ok (.ifCond .le 8, 3) := by decide +kernel
theorem dX12_begin_106 : decode cX12_begin 106 = .ok (.lload 8, 2) := by decide +kernel
theorem dX12_begin_108 : decode cX12_begin 108 = .ok (.goto 5, 3) := by decide +kernel
theorem dX12_begin_111 : decode cX12_begin 111 = .ok (.lload 5, 2) := by decide +kernel
theorem dX12_begin_113 : decode cX12_begin 113 = .ok (.lstore 5, 2) := by decide +kernel
theorem dX12_begin_115 : decode cX12_begin 115 = .ok (.iinc 7 1, 3) := by decide +kernel
theorem dX12_begin_118 : decode cX12_begin 118 = .ok (.goto (-76), 3) := by decide +kernel
theorem dX12_begin_121 : decode cX12_begin 121 = .ok (.iload 4, 2) := by decide +kernel
theorem dX12_begin_123 : decode cX12_begin 123 = .ok (.ireturn, 1) := by decide +kernel
theorem dX12_best_0 : decode cX12_best 0 = .ok (.iload_n 1, 1) := by decide +kernel
theorem dX12_best_1 : decode cX12_best 1 = .ok (.iconst 0, 1) := by decide +kernel
theorem dX12_best_2 : decode cX12_best 2 = .ok (.bipush 6, 2) := by decide +kernel
theorem dX12_best_4 : decode cX12_best 4 = .ok (.invokestatic 48, 3) := by decide +kernel
theorem dX12_best_7 : decode cX12_best 7 = .ok (.ifCond .ne 6, 3) := by decide +kernel
theorem dX12_best_10 : decode cX12_best 10 = .ok (.bipush (-2), 2) := by decide +kernel
theorem dX12_best_12 : decode cX12_best 12 = .ok (.ireturn, 1) := by decide +kernel
theorem dX12_best_13 : decode cX12_best 13 = .ok (.aload_n 0, 1) := by decide +kernel
theorem dX12_best_14 : decode cX12_best 14 = .ok (.getfield 9, 3) := by decide +kernel
theorem dX12_best_17 : decode cX12_best 17 = .ok (.iconst 1, 1) := by decide +kernel
theorem dX12_best_18 : decode cX12_best 18 = .ok (.iaload, 1) := by decide +kernel
theorem dX12_best_19 : decode cX12_best 19 = .ok (.ifCond .eq 12, 3) := by decide +kernel
theorem dX12_best_22 : decode cX12_best 22 = .ok (.aload_n 0, 1) := by decide +kernel
theorem dX12_best_23 : decode cX12_best 23 = .ok (.getfield 9, 3) := by decide +kernel
theorem dX12_best_26 : decode cX12_best 26 = .ok (.iconst 0, 1) := by decide +kernel
theorem dX12_best_27 : decode cX12_best 27 = .ok (.iaload, 1) := by decide +kernel
theorem dX12_best_28 : decode cX12_best 28 = .ok (.ifCond .ne 6, 3) := by decide +kernel
theorem dX12_best_31 : decode cX12_best 31 = .ok (.bipush (-5), 2) := by decide +kernel
theorem dX12_best_33 : decode cX12_best 33 = .ok (.ireturn, 1) := by decide +kernel
theorem dX12_best_34 : decode cX12_best 34 = .ok (.iconst 0, 1) := by decide +kernel
theorem dX12_best_35 : decode cX12_best 35 = .ok (.istore_n 2, 1) := by decide +kernel
theorem dX12_best_36 : decode cX12_best 36 = .ok (.ldc2_w 223, 3) := by decide +kernel
theorem dX12_best_39 : decode cX12_best 39 = .ok (.lstore_n 3, 1) := by decide +kernel
theorem dX12_best_40 : decode cX12_best 40 = .ok (.iconst 0, 1) := by decide +kernel
theorem dX12_best_41 : decode cX12_best 41 = .ok (.istore 5, 2) := by decide +kernel
theorem dX12_best_43 : decode cX12_best 43 = .ok (.iload 5, 2) := by decide +kernel
theorem dX12_best_45 : decode cX12_best 45 = .ok (.aload_n 0, 1) := by decide +kernel
theorem dX12_best_46 : decode cX12_best 46 = .ok (.getfield 9, 3) := by decide +kernel
theorem dX12_best_49 : decode cX12_best 49 = .ok (.iconst 1, 1) := by decide +kernel
theorem dX12_best_50 : decode cX12_best 50 = .ok (.iaload, 1) := by decide +kernel
theorem dX12_best_51 : decode cX12_best 51 = .ok (.if_icmp .ge 59, 3) := by decide +kernel
theorem dX12_best_54 : decode cX12_best 54 = .ok (.aload_n 0, 1) := by decide +kernel
theorem dX12_best_55 : decode cX12_best 55 = .ok (.iload 5, 2) := by decide +kernel
theorem dX12_best_57 : decode cX12_best 57 = .ok (.aload_n 0, 1) := by decide +kernel
theorem dX12_best_58 : decode cX12_best 58 = .ok (.getfield 9, 3) := by decide +kernel
theorem dX12_best_61 : decode cX12_best 61 = .ok (.bipush 6, 2) := by decide +kernel
theorem dX12_best_63 : decode cX12_best 63 = .ok (.iaload, 1) := by decide +kernel
theorem dX12_best_64 : decode cX12_best 64 = .ok (.iload_n 1, 1) := by decide +kernel
theorem dX12_best_65 : decode cX12_best 65 = .ok (.bipush (-7), 2) := by decide +kernel
theorem dX12_best_67 : decode cX12_best 67 = .ok (.invokevirtual 201, 3) := by decide +kernel
theorem dX12_best_70 : decode cX12_best 70 = .ok (.aload_n 0, 1) := by decide +kernel
theorem dX12_best_71 : decode cX12_best 71 = .ok (.invokevirtual 209, 3) := by decide +kernel
theorem dX12_best_74 : decode cX12_best 74 = .ok (.lstore 6, 2) := by decide +kernel
theorem dX12_best_76 : decode cX12_best 76 = .ok (.lload 6, 2) := by decide +kernel
theorem dX12_best_78 : decode cX12_best 78 = .ok (.lload_n 3, 1) := by decide +kernel
theorem dX12_best_79 : decode cX12_best 79 = .ok (.lcmp, 1) := by decide +kernel
theorem dX12_best_80 : decode cX12_best 80 = .ok (.ifCond .le 8, 3) := by decide +kernel
theorem dX12_best_83 : decode cX12_best 83 = .ok (.iload 5, 2) := by decide +kernel
theorem dX12_best_85 : decode cX12_best 85 = .ok (.goto 4, 3) := by decide +kernel
theorem dX12_best_88 : decode cX12_best 88 = .ok (.iload_n 2, 1) := by decide +kernel
theorem dX12_best_89 : decode cX12_best 89 = .ok (.istore_n 2, 1) := by decide +kernel
theorem dX12_best_90 : decode cX12_best 90 = .ok (.lload 6, 2) := by decide +kernel
theorem dX12_best_92 : decode cX12_best 92 = .ok (.lload_n 3, 1) := by decide +kernel
theorem dX12_best_93 : decode cX12_best 93 = .ok (.lcmp, 1) := by decide +kernel
theorem dX12_best_94 : decode cX12_best 94 = .ok (.ifCond .le 8, 3) := by decide +kernel
theorem dX12_best_97 : decode cX12_best 97 = .ok (.lload 6, 2) := by decide +kernel
theorem dX12_best_99 : decode cX12_best 99 = .ok (.goto 4, 3) := by decide +kernel
theorem dX12_best_102 : decode cX12_best 102 = .ok (.lload_n 3, 1) := by decide +kernel
theorem dX12_best_103 : decode cX12_best 103 = .ok (.lstore_n 3, 1) := by decide +kernel
theorem dX12_best_104 : decode cX12_best 104 = .ok (.iinc 5 1, 3) := by decide +kernel
theorem dX12_best_107 : decode cX12_best 107 = .ok (.goto (-64), 3) := by decide +kernel
theorem dX12_best_110 : decode cX12_best 110 = .ok (.iload_n 2, 1) := by decide +kernel
theorem dX12_best_111 : decode cX12_best 111 = .ok (.ireturn, 1) := by decide +kernel
theorem dX12_round_0 : decode cX12_round 0 = .ok (.iload_n 1, 1) := by decide +kernel
theorem dX12_round_1 : decode cX12_round 1 = .ok (.iconst (-1), 1) := by decide +kernel
theorem dX12_round_2 : decode cX12_round 2 = .ok (.if_icmp .ne 12, 3) := by decide +kernel
theorem dX12_round_5 : decode cX12_round 5 = .ok (.aload_n 0, 1) := by decide +kernel
theorem dX12_round_6 : decode cX12_round 6 = .ok (.getfield 9, 3) := by decide +kernel
theorem dX12_round_9 : decode cX12_round 9 = .ok (.iconst 3, 1) := by decide +kernel
theorem dX12_round_10 : decode cX12_round 10 = .ok (.iconst 0, 1) := by decide +kernel
theorem dX12_round_11 : decode cX12_round 11 = .ok (.iastore, 1) := by decide +kernel
theorem dX12_round_12 : decode cX12_round 12 = .ok (.iconst 0, 1) := by decide +kernel
theorem dX12_round_13 : decode cX12_round 13 = .ok (.ireturn, 1) := by decide +kernel
theorem dX12_round_14 : decode cX12_round 14 = .ok (.iload_n 1, 1) := by decide +kernel
theorem dX12_round_15 : decode cX12_round 15 = .ok (.iconst 0, 1) := by decide +kernel
theorem dX12_round_16 : decode cX12_round 16 = .ok (.iconst 5, 1) := by decide +kernel
theorem dX12_round_17 : decode cX12_round 17 = .ok (.invokestatic 48, 3) := by decide +kernel
theorem dX12_round_20 : decode cX12_round 20 = .ok (.ifCond .eq 17, 3) := by decide +kernel
theorem dX12_round_23 : decode cX12_round 23 = .ok (.iload_n 2, 1) := by decide +kernel
theorem dX12_round_24 : decode cX12_round 24 = .ok (.iconst 0, 1) := by decide +kernel
theorem dX12_round_25 : decode cX12_round 25 = .ok (.iconst 5, 1) := by decide +kernel
theorem dX12_round_26 : decode cX12_round 26 = .ok (.invokestatic 48, 3) := by decide +kernel
theorem dX12_round_29 : decode cX12_round 29 = .ok (.ifCond .eq 8, 3) := by decide +kernel
theorem dX12_round_32 : decode cX12_round 32 = .ok (.iload_n 1, 1) := by decide +kernel
theorem dX12_round_33 : decode cX12_round 33 = .ok (.iload_n 2, 1) := by decide +kernel
theorem dX12_round_34 : decode cX12_round 34 = .ok (.if_icmp .lt 6, 3) := by decide +kernel
theorem dX12_round_37 : decode cX12_round 37 = .ok (.bipush (-2), 2) := by decide +kernel
theorem dX12_round_39 : decode cX12_round 39 = .ok (.ireturn, 1) := by decide +kernel
theorem dX12_round_40 : decode cX12_round 40 = .ok (.aload_n 0, 1) := by decide +kernel
theorem dX12_round_41 : decode cX12_round 41 = .ok (.getfield 9, 3) := by decide +kernel
theorem dX12_round_44 : decode cX12_round 44 = .ok (.iconst 3, 1) := by decide +kernel
theorem dX12_round_45 : decode cX12_round 45 = .ok (.iaload, 1) := by decide +kernel
theorem dX12_round_46 : decode cX12_round 46 = .ok (.bipush 15, 2) := by decide +kernel
theorem dX12_round_48 : decode cX12_round 48 = .ok (.if_icmp .ne 6, 3) := by decide +kernel
theorem dX12_round_51 : decode cX12_round 51 = .ok (.bipush (-4), 2) := by decide +kernel
theorem dX12_round_53 : decode cX12_round 53 = .ok (.ireturn, 1) := by decide +kernel
theorem dX12_round_54 : decode cX12_round 54 = .ok (.aload_n 0, 1) := by decide +kernel
theorem dX12_round_55 : decode cX12_round 55 = .ok (.getfield 9, 3) := by decide +kernel
theorem dX12_round_58 : decode cX12_round 58 = .ok (.sipush 893, 3) := by decide +kernel
theorem dX12_round_61 : decode cX12_round 61 = .ok (.iconst 2, 1) := by decide +kernel
theorem dX12_round_62 : decode cX12_round 62 = .ok (.aload_n 0, 1) := by decide +kernel
theorem dX12_round_63 : decode cX12_round 63 = .ok (.getfield 9, 3) := by decide +kernel
theorem dX12_round_66 : decode cX12_round 66 = .ok (.iconst 3, 1) := by decide +kernel
theorem dX12_round_67 : decode cX12_round 67 = .ok (.iaload, 1) := by decide +kernel
theorem dX12_round_68 : decode cX12_round 68 = .ok (.imul, 1) := by decide +kernel
theorem dX12_round_69 : decode cX12_round 69 = .ok (.iadd, 1) := by decide +kernel
theorem dX12_round_70 : decode cX12_round 70 = .ok (.iload_n 1, 1) := by decide +kernel
theorem dX12_round_71 : decode cX12_round 71 = .ok (.iastore, 1) := by decide +kernel
theorem dX12_round_72 : decode cX12_round 72 = .ok (.aload_n 0, 1) := by decide +kernel
theorem dX12_round_73 : decode cX12_round 73 = .ok (.getfield 9, 3) := by decide +kernel
theorem dX12_round_76 : decode cX12_round 76 = .ok (.sipush 893, 3) := by decide +kernel
theorem dX12_round_79 : decode cX12_round 79 = .ok (.iconst 2, 1) := by decide +kernel
theorem dX12_round_80 : decode cX12_round 80 = .ok (.aload_n 0, 1) := by decide +kernel
theorem dX12_round_81 : decode cX12_round 81 = .ok (.getfield 9, 3) := by decide +kernel
theorem dX12_round_84 : decode cX12_round 84 = .ok (.iconst 3, 1) := by decide +kernel
theorem dX12_round_85 : decode cX12_round 85 = .ok (.iaload, 1) := by decide +kernel
theorem dX12_round_86 : decode cX12_round 86 = .ok (.imul, 1) := by decide +kernel
theorem dX12_round_87 : decode cX12_round 87 = .ok (.iadd, 1) := by decide +kernel
theorem dX12_round_88 : decode cX12_round 88 = .ok (.iconst 1, 1) := by decide +kernel
theorem dX12_round_89 : decode cX12_round 89 = .ok (.iadd, 1) := by decide +kernel
theorem dX12_round_90 : decode cX12_round 90 = .ok (.iload_n 2, 1) := by decide +kernel
theorem dX12_round_91 : decode cX12_round 91 = .ok (.iastore, 1) := by decide +kernel
theorem dX12_round_92 : decode cX12_round 92 = .ok (.aload_n 0, 1) := by decide +kernel
theorem dX12_round_93 : decode cX12_round 93 = .ok (.getfield 9, 3) := by decide +kernel
theorem dX12_round_96 : decode cX12_round 96 = .ok (.iconst 3, 1) := by decide +kernel
theorem dX12_round_97 : decode cX12_round 97 = .ok (.dup2, 1) := by decide +kernel
theorem dX12_round_98 : decode cX12_round 98 = .ok (.iaload, 1) := by decide +kernel
theorem dX12_round_99 : decode cX12_round 99 = .ok (.iconst 1, 1) := by decide +kernel
theorem dX12_round_100 : decode cX12_round 100 = .ok (.iadd, 1) := by decide +kernel
theorem dX12_round_101 : decode cX12_round 101 = .ok (.iastore, 1) := by decide +kernel
theorem dX12_round_102 : decode cX12_round 102 = .ok (.aload_n 0, 1) := by decide +kernel
theorem dX12_round_103 : decode cX12_round 103 = .ok (.getfield 9, 3) := by decide +kernel
theorem dX12_round_106 : decode cX12_round 106 = .ok (.iconst 3, 1) := by decide +kernel
theorem dX12_round_107 : decode cX12_round 107 = .ok (.iaload, 1) := by decide +kernel
theorem dX12_round_108 : decode cX12_round 108 = .ok (.ireturn, 1) := by decide +kernel
theorem dX12_sorted_0 : decode cX12_sorted 0 = .ok (.iload_n 1, 1) := by decide +kernel
theorem dX12_sorted_1 : decode cX12_sorted 1 = .ok (.istore_n 2, 1) := by decide +kernel
theorem dX12_sorted_2 : decode cX12_sorted 2 = .ok (.iconst 0, 1) := by decide +kernel
theorem dX12_sorted_3 : decode cX12_sorted 3 = .ok (.istore_n 3, 1) := by decide +kernel
theorem dX12_sorted_4 : decode cX12_sorted 4 = .ok (.iload_n 3, 1) := by decide +kernel
theorem dX12_sorted_5 : decode cX12_sorted 5 = .ok (.aload_n 0, 1) := by decide +kernel
theorem dX12_sorted_6 : decode cX12_sorted 6 = .ok (.getfield 9, 3) := by decide +kernel
theorem dX12_sorted_9 : decode cX12_sorted 9 = .ok (.iconst 3, 1) := by decide +kernel
theorem dX12_sorted_10 : decode cX12_sorted 10 = .ok (.iaload, 1) := by decide +kernel
theorem dX12_sorted_11 : decode cX12_sorted 11 = .ok (.if_icmp .ge 108, 3) := by decide +kernel
theorem dX12_sorted_14 : decode cX12_sorted 14 = .ok (.aload_n 0, 1) := by decide +kernel
theorem dX12_sorted_15 : decode cX12_sorted 15 = .ok (.getfield 9, 3) := by decide +kernel
theorem dX12_sorted_18 : decode cX12_sorted 18 = .ok (.sipush 893, 3) := by decide +kernel
theorem dX12_sorted_21 : decode cX12_sorted 21 = .ok (.iconst 2, 1) := by decide +kernel
theorem dX12_sorted_22 : decode cX12_sorted 22 = .ok (.iload_n 3, 1) := by decide +kernel
theorem dX12_sorted_23 : decode cX12_sorted 23 = .ok (.imul, 1) := by decide +kernel
theorem dX12_sorted_24 : decode cX12_sorted 24 = .ok (.iadd, 1) := by decide +kernel
theorem dX12_sorted_25 : decode cX12_sorted 25 = .ok (.iaload, 1) := by decide +kernel
theorem dX12_sorted_26 : decode cX12_sorted 26 = .ok (.istore 4, 2) := by decide +kernel
theorem dX12_sorted_28 : decode cX12_sorted 28 = .ok (.aload_n 0, 1) := by decide +kernel
theorem dX12_sorted_29 : decode cX12_sorted 29 = .ok (.getfield 9, 3) := by decide +kernel
theorem dX12_sorted_32 : decode cX12_sorted 32 = .ok (.sipush 893, 3) := by decide +kernel
theorem dX12_sorted_35 : decode cX12_sorted 35 = .ok (.iconst 2, 1) := by decide +kernel
theorem dX12_sorted_36 : decode cX12_sorted 36 = .ok (.iload_n 3, 1) := by decide +kernel
theorem dX12_sorted_37 : decode cX12_sorted 37 = .ok (.imul, 1) := by decide +kernel
theorem dX12_sorted_38 : decode cX12_sorted 38 = .ok (.iadd, 1) := by decide +kernel
theorem dX12_sorted_39 : decode cX12_sorted 39 = .ok (.iconst 1, 1) := by decide +kernel
theorem dX12_sorted_40 : decode cX12_sorted 40 = .ok (.iadd, 1) := by decide +kernel
theorem dX12_sorted_41 : decode cX12_sorted 41 = .ok (.iaload, 1) := by decide +kernel
theorem dX12_sorted_42 : decode cX12_sorted 42 = .ok (.istore 5, 2) := by decide +kernel
theorem dX12_sorted_44 : decode cX12_sorted 44 = .ok (.iload_n 2, 1) := by decide +kernel
theorem dX12_sorted_45 : decode cX12_sorted 45 = .ok (.iload 4, 2) := by decide +kernel
theorem dX12_sorted_47 : decode cX12_sorted 47 = .ok (.invokestatic 52, 3) := by decide +kernel
theorem dX12_sorted_50 : decode cX12_sorted 50 = .ok (.istore 6, 2) := by decide +kernel
theorem dX12_sorted_52 : decode cX12_sorted 52 = .ok (.iload_n 2, 1) := by decide +kernel
theorem dX12_sorted_53 : decode cX12_sorted 53 = .ok (.iload 5, 2) := by decide +kernel
theorem dX12_sorted_55 : decode cX12_sorted 55 = .ok (.invokestatic 52, 3) := by decide +kernel
theorem dX12_sorted_58 : decode cX12_sorted 58 = .ok (.istore 7, 2) := by decide +kernel
theorem dX12_sorted_60 : decode cX12_sorted 60 = .ok (.aload_n 0, 1) := by decide +kernel
theorem dX12_sorted_61 : decode cX12_sorted 61 = .ok (.iload 7, 2) := by decide +kernel
theorem dX12_sorted_63 : decode cX12_sorted 63 = .ok (.iload 6, 2) := by decide +kernel
theorem dX12_sorted_65 : decode cX12_sorted 65 = .ok (.invokevirtual 56, 3) := by decide +kernel
theorem dX12_sorted_68 : decode cX12_sorted 68 = .ok (.ifCond .eq 43, 3) := by decide +kernel
theorem dX12_sorted_71 : decode cX12_sorted 71 = .ok (.iload_n 2, 1) := by decide +kernel
theorem dX12_sorted_72 : decode cX12_sorted 72 = .ok (.bipush 7, 2) := by decide +kernel
theorem dX12_sorted_74 : decode cX12_sorted 74 = .ok (.iconst 3, 1) := by decide +kernel
theorem dX12_sorted_75 : decode cX12_sorted 75 = .ok (.iload 4, 2) := by decide +kernel
theorem dX12_sorted_77 : decode cX12_sorted 77 = .ok (.imul, 1) := by decide +kernel
theorem dX12_sorted_78 : decode cX12_sorted 78 = .ok (.ishl, 1) := by decide +kernel
theorem dX12_sorted_79 : decode cX12_sorted 79 = .ok (.iconst (-1), 1) := by decide +kernel
theorem dX12_sorted_80 : decode cX12_sorted 80 = .ok (.ixor, 1) := by decide +kernel
theorem dX12_sorted_81 : decode cX12_sorted 81 = .ok (.iand, 1) := by decide +kernel
theorem dX12_sorted_82 : decode cX12_sorted 82 = .ok (.bipush 7, 2) := by decide +kernel
theorem dX12_sorted_84 : decode cX12_sorted 84 = .ok (.iconst 3, 1) := by decide +kernel
theorem dX12_sorted_85 : decode cX12_sorted 85 = .ok (.iload 5, 2) := by decide +kernel
theorem dX12_sorted_87 : decode cX12_sorted 87 = .ok (.imul, 1) := by decide +kernel
theorem dX12_sorted_88 : decode cX12_sorted 88 = .ok (.ishl, 1) := by decide +kernel
theorem dX12_sorted_89 : decode cX12_sorted 89 = .ok (.iconst (-1), 1) := by decide +kernel
theorem dX12_sorted_90 : decode cX12_sorted 90 = .ok (.ixor, 1) := by decide +kernel
theorem dX12_sorted_91 : decode cX12_sorted 91 = .ok (.iand, 1) := by decide +kernel
theorem dX12_sorted_92 : decode cX12_sorted 92 = .ok (.iload 7, 2) := by decide +kernel
theorem dX12_sorted_94 : decode cX12_sorted 94 = .ok (.iconst 3, 1) := by decide +kernel
theorem dX12_sorted_95 : decode cX12_sorted 95 = .ok (.iload 4, 2) := by decide +kernel
theorem dX12_sorted_97 : decode cX12_sorted 97 = .ok (.imul, 1) := by decide +kernel
theorem dX12_sorted_98 : decode cX12_sorted 98 = .ok (.ishl, 1) := by decide +kernel
theorem dX12_sorted_99 : decode cX12_sorted 99 = .ok (.ior, 1) := by decide +kernel
theorem dX12_sorted_100 : decode cX12_sorted 100 = .ok (.iload 6, 2) := by decide +kernel
theorem dX12_sorted_102 : decode cX12_sorted 102 = .ok (.iconst 3, 1) := by decide +kernel
theorem dX12_sorted_103 : decode cX12_sorted 103 = .ok (.iload 5, 2) := by decide +kernel
theorem dX12_sorted_105 : decode cX12_sorted 105 = .ok (.imul, 1) := by decide +kernel
theorem dX12_sorted_106 : decode cX12_sorted 106 = .ok (.ishl, 1) := by decide +kernel
theorem dX12_sorted_107 : decode cX12_sorted 107 = .ok (.ior, 1) := by decide +kernel
theorem dX12_sorted_108 : decode cX12_sorted 108 = .ok (.goto 4, 3) := by decide +kernel
theorem dX12_sorted_111 : decode cX12_sorted 111 = .ok (.iload_n 2, 1) := by decide +kernel
theorem dX12_sorted_112 : decode cX12_sorted 112 = .ok (.istore_n 2, 1) := by decide +kernel
theorem dX12_sorted_113 : decode cX12_sorted 113 = .ok (.iinc 3 1, 3) := by decide +kernel
theorem dX12_sorted_116 : decode cX12_sorted 116 = .ok (.goto (-112), 3) := by decide +kernel
theorem dX12_sorted_119 : decode cX12_sorted 119 = .ok (.iconst 1, 1) := by decide +kernel
theorem dX12_sorted_120 : decode cX12_sorted 120 = .ok (.istore_n 3, 1) := by decide +kernel
theorem dX12_sorted_121 : decode cX12_sorted 121 = .ok (.iconst 1, 1) := by decide +kernel
theorem dX12_sorted_122 : decode cX12_sorted 122 = .ok (.istore 4, 2) := by decide +kernel
theorem dX12_sorted_124 : decode cX12_sorted 124 = .ok (.iload 4, 2) := by decide +kernel
theorem dX12_sorted_126 : decode cX12_sorted 126 = .ok (.aload_n 0, 1) := by decide +kernel
theorem dX12_sorted_127 : decode cX12_sorted 127 = .ok (.getfield 9, 3) := by decide +kernel
theorem dX12_sorted_130 : decode cX12_sorted 130 = .ok (.iconst 0, 1) := by decide +kernel
theorem dX12_sorted_131 : decode cX12_sorted 131 = .ok (.iaload, 1) := by decide +kernel
theorem dX12_sorted_132 : decode cX12_sorted 132 = .ok (.if_icmp .ge 40, 3) := by decide +kernel
theorem dX12_sorted_135 : decode cX12_sorted 135 = .ok (.iload_n 3, 1) := by decide +kernel
theorem dX12_sorted_136 : decode cX12_sorted 136 = .ok (.ifCond .eq 28, 3) := by decide +kernel
theorem dX12_sorted_139 : decode cX12_sorted 139 = .ok (.aload_n 0, 1) := by decide +kernel
theorem dX12_sorted_140 : decode cX12_sorted 140 = .ok (.iload_n 2, 1) := by decide +kernel
theorem dX12_sorted_141 : decode cX12_sorted 141 = .ok (.iload 4, 2) := by decide +kernel
theorem dX12_sorted_143 : decode cX12_sorted 143 = .ok (.invokestatic 52, 3) := by decide +kernel
theorem dX12_sorted_146 : decode cX12_sorted 146 = .ok (.iload_n 2, 1) := by decide +kernel
theorem dX12_sorted_147 : decode cX12_sorted 147 = .ok (.iload 4, 2) := by decide +kernel
theorem dX12_sorted_149 : decode cX12_sorted 149 = .ok (.iconst 1, 1) := by decide +kernel
theorem dX12_sorted_150 : decode cX12_sorted 150 = .ok (.isub, 1) := by decide +kernel
theorem dX12_sorted_151 : decode cX12_sorted 151 = .ok (.invokestatic 52, 3) := by decide +kernel
theorem dX12_sorted_154 : decode cX12_sorted 154 = .ok (.invokevirtual 56, 3) := by decide +kernel
theorem dX12_sorted_157 : decode cX12_sorted 157 = .ok (.ifCond .ne 7, 3) := by decide +kernel
theorem dX12_sorted_160 : decode cX12_sorted 160 = .ok (.iconst 1, 1) := by decide +kernel
theorem dX12_sorted_161 : decode cX12_sorted 161 = .ok (.goto 4, 3) := by decide +kernel
theorem dX12_sorted_164 : decode cX12_sorted 164 = .ok (.iconst 0, 1) := by decide +kernel
theorem dX12_sorted_165 : decode cX12_sorted 165 = .ok (.istore_n 3, 1) := by decide +kernel
theorem dX12_sorted_166 : decode cX12_sorted 166 = .ok (.iinc 4 1, 3) := by decide +kernel
theorem dX12_sorted_169 : decode cX12_sorted 169 = .ok (.goto (-45), 3) := by decide +kernel
theorem dX12_sorted_172 : decode cX12_sorted 172 = .ok (.iload_n 3, 1) := by decide +kernel
theorem dX12_sorted_173 : decode cX12_sorted 173 = .ok (.ireturn, 1) := by decide +kernel
theorem dX12_fromBelow_0 : decode cX12_fromBelow 0 = .ok (.iconst 0, 1) := by decide +kernel
theorem dX12_fromBelow_1 : decode cX12_fromBelow 1 = .ok (.istore_n 2, 1) := by decide +kernel
theorem dX12_fromBelow_2 : decode cX12_fromBelow 2 = .ok (.iconst 0, 1) := by decide +kernel
theorem dX12_fromBelow_3 : decode cX12_fromBelow 3 = .ok (.istore_n 3, 1) := by decide +kernel
theorem dX12_fromBelow_4 : decode cX12_fromBelow 4 = .ok (.iload_n 3, 1) := by decide +kernel
theorem dX12_fromBelow_5 : decode cX12_fromBelow 5 = .ok (.aload_n 0, 1) := by decide +kernel
theorem dX12_fromBelow_6 : decode cX12_fromBelow 6 = .ok (.getfield 9, 3) := by decide +kernel
theorem dX12_fromBelow_9 : decode cX12_fromBelow 9 = .ok (.iconst 0, 1) := by decide +kernel
theorem dX12_fromBelow_10 : decode cX12_fromBelow 10 = .ok (.iaload, 1) := by decide +kernel
theorem dX12_fromBelow_11 : decode cX12_fromBelow 11 = .ok (.if_icmp .ge 58, 3) := by decide +kernel
theorem dX12_fromBelow_14 : decode cX12_fromBelow 14 = .ok (.iload_n 3, 1) := by decide +kernel
theorem dX12_fromBelow_15 : decode cX12_fromBelow 15 = .ok (.iconst 1, 1) := by decide +kernel
theorem dX12_fromBelow_16 : decode cX12_fromBelow 16 = .ok (.iadd, 1) := by decide +kernel
theorem dX12_fromBelow_17 : decode cX12_fromBelow 17 = .ok (.istore 4, 2) := by decide +kernel
theorem dX12_fromBelow_19 : decode cX12_fromBelow 19 = .ok (.iload 4, 2) := by decide +kernel
theorem dX12_fromBelow_21 : decode cX12_fromBelow 21 = .ok (.aload_n 0, 1) := by decide +kernel
theorem dX12_fromBelow_22 : decode cX12_fromBelow 22 = .ok (.getfield 9, 3) := by decide +kernel
theorem dX12_fromBelow_25 : decode cX12_fromBelow 25 = .ok (.iconst 0, 1) := by decide +kernel
theorem dX12_fromBelow_26 : decode cX12_fromBelow 26 = .ok (.iaload, 1) := by decide +kernel
theorem dX12_fromBelow_27 : decode cX12_fromBelow 27 = .ok (.if_icmp .ge 36, 3) := by decide +kernel
theorem dX12_fromBelow_30 : decode cX12_fromBelow 30 = .ok (.iload_n 2, 1) := by decide +kernel
theorem dX12_fromBelow_31 : decode cX12_fromBelow 31 = .ok (.aload_n 0, 1) := by decide +kernel
theorem dX12_fromBelow_32 : decode cX12_fromBelow 32 = .ok (.getfield 9, 3) := by decide +kernel
theorem dX12_fromBelow_35 : decode cX12_fromBelow 35 = .ok (.sipush 929, 3) := by decide +kernel
theorem dX12_fromBelow_38 : decode cX12_fromBelow 38 = .ok (.bipush 6, 2) := by decide +kernel
theorem dX12_fromBelow_40 : decode cX12_fromBelow 40 = .ok (.iload_n 1, 1) := by decide +kernel
theorem dX12_fromBelow_41 : decode cX12_fromBelow 41 = .ok (.iload 4, 2) := by decide +kernel
theorem dX12_fromBelow_43 : decode cX12_fromBelow 43 = .ok (.invokestatic 52, 3) := by decide +kernel
theorem dX12_fromBelow_46 : decode cX12_fromBelow 46 = .ok (.imul, 1) := by decide +kernel
theorem dX12_fromBelow_47 : decode cX12_fromBelow 47 = .ok (.iadd, 1) := by decide +kernel
theorem dX12_fromBelow_48 : decode cX12_fromBelow 48 = .ok (.iload_n 1, 1) := by decide +kernel
theorem dX12_fromBelow_49 : decode cX12_fromBelow 49 = .ok (.iload_n 3, 1) := by decide +kernel
theorem dX12_fromBelow_50 : decode cX12_fromBelow 50 = .ok (.invokestatic 52, 3) := by decide +kernel
theorem dX12_fromBelow_53 : decode cX12_fromBelow 53 = .ok (.iadd, 1) := by decide +kernel
theorem dX12_fromBelow_54 : decode cX12_fromBelow 54 = .ok (.iaload, 1) := by decide +kernel
theorem dX12_fromBelow_55 : decode cX12_fromBelow 55 = .ok (.iadd, 1) := by decide +kernel
theorem dX12_fromBelow_56 : decode cX12_fromBelow 56 = .ok (.istore_n 2, 1) := by decide +kernel
theorem dX12_fromBelow_57 : decode cX12_fromBelow 57 = .ok (.iinc 4 1, 3) := by decide +kernel
theorem dX12_fromBelow_60 : decode cX12_fromBelow 60 = .ok (.goto (-41), 3) := by decide +kernel
theorem dX12_fromBelow_63 : decode cX12_fromBelow 63 = .ok (.iinc 3 1, 3) := by decide +kernel
theorem dX12_fromBelow_66 : decode cX12_fromBelow 66 = .ok (.goto (-62), 3) := by decide +kernel
theorem dX12_fromBelow_69 : decode cX12_fromBelow 69 = .ok (.iload_n 2, 1) := by decide +kernel
theorem dX12_fromBelow_70 : decode cX12_fromBelow 70 = .ok (.ireturn, 1) := by decide +kernel
theorem dX12_goesThrough_0 : decode cX12_goesThrough 0 = .ok (.iload_n 3, 1) := by decide +kernel
theorem dX12_goesThrough_1 : decode cX12_goesThrough 1 = .ok (.aload_n 0, 1) := by decide +kernel
theorem dX12_goesThrough_2 : decode cX12_goesThrough 2 = .ok (.getfield 9, 3) := by decide +kernel
theorem dX12_goesThrough_5 : decode cX12_goesThrough 5 = .ok (.iconst 0, 1) := by decide +kernel
theorem dX12_goesThrough_6 : decode cX12_goesThrough 6 = .ok (.iaload, 1) := by decide +kernel
theorem dX12_goesThrough_7 : decode cX12_goesThrough 7 = .ok (.if_icmp .ne 102, 3) := by decide +kernel
theorem dX12_goesThrough_10 : decode cX12_goesThrough 10 = .ok (.aload_n 0, 1) := by decide +kernel
theorem dX12_goesThrough_11 : decode cX12_goesThrough 11 = .ok (.dup, 1) := by decide +kernel
theorem dX12_goesThrough_12 : decode cX12_goesThrough 12 = .ok (.getfield 225, 3) := by decide +kernel
theorem dX12_goesThrough_15 : decode cX12_goesThrough 15 = .ok (.iconst 1, 1) := by decide +kernel
theorem dX12_goesThrough_16 : decode cX12_goesThrough 16 = .ok (.iadd, 1) := by decide +kernel
theorem dX12_goesThrough_17 : decode cX12_goesThrough 17 = .ok (.putfield 225, 3) := by decide +kernel
theorem dX12_goesThrough_20 : decode cX12_goesThrough 20 = .ok (.aload_n 0, 1) := by decide +kernel
theorem dX12_goesThrough_21 : decode cX12_goesThrough 21 = .ok (.dup, 1) := by decide +kernel
theorem dX12_goesThrough_22 : decode cX12_goesThrough 22 = .ok (.getfield 228, 3) := by decide +kernel
theorem dX12_goesThrough_25 : decode cX12_goesThrough 25 = .ok (.aload_n 0, 1) := by decide +kernel
theorem dX12_goesThrough_26 : decode cX12_goesThrough 26 = .ok (.iload_n 1, 1) := by decide +kernel
theorem dX12_goesThrough_27 : decode cX12_goesThrough 27 = .ok (.invokevirtual 231, 3) := by decide +kernel
theorem dX12_goesThrough_30 : decode cX12_goesThrough 30 = .ok (.ifCond .eq 7, 3) := by decide +kernel
theorem dX12_goesThrough_33 : decode cX12_goesThrough 33 = .ok (.iconst 1, 1) := by decide +kernel
theorem dX12_goesThrough_34 : decode cX12_goesThrough 34 = .ok (.goto 4, 3) := by decide +kernel
theorem dX12_goesThrough_37 : decode cX12_goesThrough 37 = .ok (.iconst 0, 1) := by decide +kernel
theorem dX12_goesThrough_38 : decode cX12_goesThrough 38 = .ok (.iadd, 1) := by decide +kernel
theorem dX12_goesThrough_39 : decode cX12_goesThrough 39 = .ok (.putfield 228, 3) := by decide +kernel
theorem dX12_goesThrough_42 : decode cX12_goesThrough 42 = .ok (.aload_n 0, 1) := by decide +kernel
theorem dX12_goesThrough_43 : decode cX12_goesThrough 43 = .ok (.iload_n 1, 1) := by decide +kernel
theorem dX12_goesThrough_44 : decode cX12_goesThrough 44 = .ok (.invokevirtual 234, 3) := by decide +kernel
theorem dX12_goesThrough_47 : decode cX12_goesThrough 47 = .ok (.istore 4, 2) := by decide +kernel
theorem dX12_goesThrough_49 : decode cX12_goesThrough 49 = .ok (.aload_n 0, 1) := by decide +kernel
theorem dX12_goesThrough_50 : decode cX12_goesThrough 50 = .ok (.aload_n 0, 1) := by decide +kernel
theorem dX12_goesThrough_51 : decode cX12_goesThrough 51 = .ok (.getfield 238, 3) := by decide +kernel
theorem dX12_goesThrough_54 : decode cX12_goesThrough 54 = .ok (.iconst (-1), 1) := by decide +kernel
theorem dX12_goesThrough_55 : decode cX12_goesThrough 55 = .ok (.if_icmp .eq 12, 3) := by decide +kernel
theorem dX12_goesThrough_58 : decode cX12_goesThrough 58 = .ok (.iload 4, 2) := by decide +kernel
theorem dX12_goesThrough_60 : decode cX12_goesThrough 60 = .ok (.aload_n 0, 1) := by decide +kernel
theorem dX12_goesThrough_61 : decode cX12_goesThrough 61 = .ok (.getfield 238, 3) := by decide +kernel
theorem dX12_goesThrough_64 : decode cX12_goesThrough 64 = .ok (.if_icmp .ge 7, 3) := by decide +kernel
theorem dX12_goesThrough_67 : decode cX12_goesThrough 67 = .ok (.iload_n 1, 1) := by decide +kernel
theorem dX12_goesThrough_68 : decode cX12_goesThrough 68 = .ok (.goto 7, 3) := by decide +kernel
theorem dX12_goesThrough_71 : decode cX12_goesThrough 71 = .ok (.aload_n 0, 1) := by decide +kernel
theorem dX12_goesThrough_72 : decode cX12_goesThrough 72 = .ok (.getfield 241, 3) := by decide +kernel
theorem dX12_goesThrough_75 : decode cX12_goesThrough 75 = .ok (.putfield 241, 3) := by decide +kernel
theorem dX12_goesThrough_78 : decode cX12_goesThrough 78 = .ok (.aload_n 0, 1) := by decide +kernel
theorem dX12_goesThrough_79 : decode cX12_goesThrough 79 = .ok (.aload_n 0, 1) := by decide +kernel
theorem dX12_goesThrough_80 : decode cX12_goesThrough 80 = .ok (.getfield 238, 3) := by decide +kernel
theorem dX12_goesThrough_83 : decode cX12_goesThrough 83 = .ok (.iconst (-1), 1) := by decide +kernel
theorem dX12_goesThrough_84 : decode cX12_goesThrough 84 = .ok (.if_icmp .eq 12, 3) := by decide +kernel
theorem dX12_goesThrough_87 : decode cX12_goesThrough 87 = .ok (.iload 4, 2) := by decide +kernel
theorem dX12_goesThrough_89 : decode cX12_goesThrough 89 = .ok (.aload_n 0, 1) := by decide +kernel
theorem dX12_goesThrough_90 : decode cX12_goesThrough 90 = .ok (.getfield 238, 3) := by decide +kernel
theorem dX12_goesThrough_93 : decode cX12_goesThrough 93 = .ok (.if_icmp .ge 8, 3) := by decide +kernel
theorem dX12_goesThrough_96 : decode cX12_goesThrough 96 = .ok (.iload 4, 2) := by decide +kernel
theorem dX12_goesThrough_98 : decode cX12_goesThrough 98 = .ok (.goto 7, 3) := by decide +kernel
theorem dX12_goesThrough_101 : decode cX12_goesThrough 101 = .ok (.aload_n 0, 1) := by decide +kernel
theorem dX12_goesThrough_102 : decode cX12_goesThrough 102 = .ok (.getfield 238, 3) := by decide +kernel
theorem dX12_goesThrough_105 : decode cX12_goesThrough 105 = .ok (.putfield 238, 3) := by decide +kernel
theorem dX12_goesThrough_108 : decode cX12_goesThrough 108 = .ok (.return_, 1) := by decide +kernel
theorem dX12_goesThrough_109 : decode cX12_goesThrough 109 = .ok (.iconst 0, 1) := by decide +kernel
theorem dX12_goesThrough_110 : decode cX12_goesThrough 110 = .ok (.istore 4, 2) := by decide +kernel
theorem dX12_goesThrough_112 : decode cX12_goesThrough 112 = .ok (.iload 4, 2) := by decide +kernel
theorem dX12_goesThrough_114 : decode cX12_goesThrough 114 = .ok (.aload_n 0, 1) := by decide +kernel
theorem dX12_goesThrough_115 : decode cX12_goesThrough 115 = .ok (.getfield 9, 3) := by decide +kernel
theorem dX12_goesThrough_118 : decode cX12_goesThrough 118 = .ok (.iconst 0, 1) := by decide +kernel
theorem dX12_goesThrough_119 : decode cX12_goesThrough 119 = .ok (.iaload, 1) := by decide +kernel
theorem dX12_goesThrough_120 : decode cX12_goesThrough 120 = .ok (.if_icmp .ge 39, 3) := by decide +kernel
theorem dX12_goesThrough_123 : decode cX12_goesThrough 123 = .ok (.iload_n 2, 1) := by decide +kernel
theorem dX12_goesThrough_124 : decode cX12_goesThrough 124 = .ok (.iload 4, 2) := by decide +kernel
theorem dX12_goesThrough_126 : decode cX12_goesThrough 126 = .ok (.ishr, 1) := by decide +kernel
theorem dX12_goesThrough_127 : decode cX12_goesThrough 127 = .ok (.iconst 1, 1) := by decide +kernel
theorem dX12_goesThrough_128 : decode cX12_goesThrough 128 = .ok (.iand, 1) := by decide +kernel
theorem dX12_goesThrough_129 : decode cX12_goesThrough 129 = .ok (.ifCond .ne 24, 3) := by decide +kernel
theorem dX12_goesThrough_132 : decode cX12_goesThrough 132 = .ok (.aload_n 0, 1) := by decide +kernel
theorem dX12_goesThrough_133 : decode cX12_goesThrough 133 = .ok (.iload_n 1, 1) := by decide +kernel
theorem dX12_goesThrough_134 : decode cX12_goesThrough 134 = .ok (.iload 4, 2) := by decide +kernel
theorem dX12_goesThrough_136 : decode cX12_goesThrough 136 = .ok (.iconst 3, 1) := by decide +kernel
theorem dX12_goesThrough_137 : decode cX12_goesThrough 137 = .ok (.iload_n 3, 1) := by decide +kernel
theorem dX12_goesThrough_138 : decode cX12_goesThrough 138 = .ok (.imul, 1) := by decide +kernel
theorem dX12_goesThrough_139 : decode cX12_goesThrough 139 = .ok (.ishl, 1) := by decide +kernel
theorem dX12_goesThrough_140 : decode cX12_goesThrough 140 = .ok (.ior, 1) := by decide +kernel
theorem dX12_goesThrough_141 : decode cX12_goesThrough 141 = .ok (.iload_n 2, 1) := by decide +kernel
theorem dX12_goesThrough_142 : decode cX12_goesThrough 142 = .ok (.iconst 1, 1) := by decide +kernel
theorem dX12_goesThrough_143 : decode cX12_goesThrough 143 = .ok (.iload 4, 2) := by decide +kernel
theorem dX12_goesThrough_145 : decode cX12_goesThrough 145 = .ok (.ishl, 1) := by decide +kernel
theorem dX12_goesThrough_146 : decode cX12_goesThrough 146 = .ok (.ior, 1) := by decide +kernel
theorem dX12_goesThrough_147 : decode cX12_goesThrough 147 = .ok (.iload_n 3, 1) := by decide +kernel
theorem dX12_goesThrough_148 : decode cX12_goesThrough 148 = .ok (.iconst 1, 1) := by decide +kernel
theorem dX12_goesThrough_149 : decode cX12_goesThrough 149 = .ok (.iadd, 1) := by decide +kernel
theorem dX12_goesThrough_150 : decode cX12_goesThrough 150 = .ok (.invokevirtual 244, 3) := by decide +kernel
theorem dX12_goesThrough_153 : decode cX12_goesThrough 153 = .ok (.iinc 4 1, 3) := by decide +kernel
theorem dX12_goesThrough_156 : decode cX12_goesThrough 156 = .ok (.goto (-44), 3) := by decide +kernel
theorem dX12_goesThrough_159 : decode cX12_goesThrough 159 = .ok (.return_, 1) := by decide +kernel
theorem dX12_allOrders_0 : decode cX12_allOrders 0 = .ok (.aload_n 0, 1) := by decide +kernel
theorem dX12_allOrders_1 : decode cX12_allOrders 1 = .ok (.iconst 0, 1) := by decide +kernel
theorem dX12_allOrders_2 : decode cX12_allOrders 2 = .ok (.putfield 225, 3) := by decide +kernel
theorem dX12_allOrders_5 : decode cX12_allOrders 5 = .ok (.aload_n 0, 1) := by decide +kernel
theorem dX12_allOrders_6 : decode cX12_allOrders 6 = .ok (.iconst 0, 1) := by decide +kernel
theorem dX12_allOrders_7 : decode cX12_allOrders 7 = .ok (.putfield 228, 3) := by decide +kernel
theorem dX12_allOrders_10 : decode cX12_allOrders 10 = .ok (.aload_n 0, 1) := by decide +kernel
theorem dX12_allOrders_11 : decode cX12_allOrders 11 = .ok (.iconst (-1), 1) := by decide +kernel
theorem dX12_allOrders_12 : decode cX12_allOrders 12 = .ok (.putfield 238, 3) := by decide +kernel
theorem dX12_allOrders_15 : decode cX12_allOrders 15 = .ok (.aload_n 0, 1) := by decide +kernel
theorem dX12_allOrders_16 : decode cX12_allOrders 16 = .ok (.iconst 0, 1) := by decide +kernel
theorem dX12_allOrders_17 : decode cX12_allOrders 17 = .ok (.putfield 241, 3) := by decide +kernel
theorem dX12_allOrders_20 : decode cX12_allOrders 20 = .ok (.aload_n 0, 1) := by decide +kernel
theorem dX12_allOrders_21 : decode cX12_allOrders 21 = .ok (.iconst 0, 1) := by decide +kernel
theorem dX12_allOrders_22 : decode cX12_allOrders 22 = .ok (.iconst 0, 1) := by decide +kernel
theorem dX12_allOrders_23 : decode cX12_allOrders 23 = .ok (.iconst 0, 1) := by decide +kernel
theorem dX12_allOrders_24 : decode cX12_allOrders 24 = .ok (.invokevirtual 244, 3) := by decide +kernel
theorem dX12_allOrders_27 : decode cX12_allOrders 27 = .ok (.return_, 1) := by decide +kernel
theorem dX12_sorts_0 : decode cX12_sorts 0 = .ok (.iload_n 1, 1) := by decide +kernel
theorem dX12_sorts_1 : decode cX12_sorts 1 = .ok (.iconst 0, 1) := by decide +kernel
theorem dX12_sorts_2 : decode cX12_sorts 2 = .ok (.iconst 1, 1) := by decide +kernel
theorem dX12_sorts_3 : decode cX12_sorts 3 = .ok (.invokestatic 48, 3) := by decide +kernel
theorem dX12_sorts_6 : decode cX12_sorts 6 = .ok (.ifCond .ne 5, 3) := by decide +kernel
theorem dX12_sorts_9 : decode cX12_sorts 9 = .ok (.iconst (-1), 1) := by decide +kernel
theorem dX12_sorts_10 : decode cX12_sorts 10 = .ok (.ireturn, 1) := by decide +kernel
theorem dX12_sorts_11 : decode cX12_sorts 11 = .ok (.iconst 0, 1) := by decide +kernel
theorem dX12_sorts_12 : decode cX12_sorts 12 = .ok (.istore_n 2, 1) := by decide +kernel
theorem dX12_sorts_13 : decode cX12_sorts 13 = .ok (.iload_n 2, 1) := by decide +kernel
theorem dX12_sorts_14 : decode cX12_sorts 14 = .ok (.aload_n 0, 1) := by decide +kernel
theorem dX12_sorts_15 : decode cX12_sorts 15 = .ok (.getfield 9, 3) := by decide +kernel
theorem dX12_sorts_18 : decode cX12_sorts 18 = .ok (.iconst 3, 1) := by decide +kernel
theorem dX12_sorts_19 : decode cX12_sorts 19 = .ok (.iaload, 1) := by decide +kernel
theorem dX12_sorts_20 : decode cX12_sorts 20 = .ok (.if_icmp .ge 35, 3) := by decide +kernel
theorem dX12_sorts_23 : decode cX12_sorts 23 = .ok (.aload_n 0, 1) := by decide +kernel
theorem dX12_sorts_24 : decode cX12_sorts 24 = .ok (.getfield 9, 3) := by decide +kernel
theorem dX12_sorts_27 : decode cX12_sorts 27 = .ok (.sipush 893, 3) := by decide +kernel
theorem dX12_sorts_30 : decode cX12_sorts 30 = .ok (.iconst 2, 1) := by decide +kernel
theorem dX12_sorts_31 : decode cX12_sorts 31 = .ok (.iload_n 2, 1) := by decide +kernel
theorem dX12_sorts_32 : decode cX12_sorts 32 = .ok (.imul, 1) := by decide +kernel
theorem dX12_sorts_33 : decode cX12_sorts 33 = .ok (.iadd, 1) := by decide +kernel
theorem dX12_sorts_34 : decode cX12_sorts 34 = .ok (.iconst 1, 1) := by decide +kernel
theorem dX12_sorts_35 : decode cX12_sorts 35 = .ok (.iadd, 1) := by decide +kernel
theorem dX12_sorts_36 : decode cX12_sorts 36 = .ok (.iaload, 1) := by decide +kernel
theorem dX12_sorts_37 : decode cX12_sorts 37 = .ok (.aload_n 0, 1) := by decide +kernel
theorem dX12_sorts_38 : decode cX12_sorts 38 = .ok (.getfield 9, 3) := by decide +kernel
theorem dX12_sorts_41 : decode cX12_sorts 41 = .ok (.iconst 0, 1) := by decide +kernel
theorem dX12_sorts_42 : decode cX12_sorts 42 = .ok (.iaload, 1) := by decide +kernel
theorem dX12_sorts_43 : decode cX12_sorts 43 = .ok (.if_icmp .lt 6, 3) := by decide +kernel
theorem dX12_sorts_46 : decode cX12_sorts 46 = .ok (.bipush (-3), 2) := by decide +kernel
theorem dX12_sorts_48 : decode cX12_sorts 48 = .ok (.ireturn, 1) := by decide +kernel
theorem dX12_sorts_49 : decode cX12_sorts 49 = .ok (.iinc 2 1, 3) := by decide +kernel
theorem dX12_sorts_52 : decode cX12_sorts 52 = .ok (.goto (-39), 3) := by decide +kernel
theorem dX12_sorts_55 : decode cX12_sorts 55 = .ok (.aload_n 0, 1) := by decide +kernel
theorem dX12_sorts_56 : decode cX12_sorts 56 = .ok (.invokevirtual 247, 3) := by decide +kernel
theorem dX12_sorts_59 : decode cX12_sorts 59 = .ok (.iload_n 1, 1) := by decide +kernel
theorem dX12_sorts_60 : decode cX12_sorts 60 = .ok (.ifCond .ne 10, 3) := by decide +kernel
theorem dX12_sorts_63 : decode cX12_sorts 63 = .ok (.aload_n 0, 1) := by decide +kernel
theorem dX12_sorts_64 : decode cX12_sorts 64 = .ok (.getfield 228, 3) := by decide +kernel
theorem dX12_sorts_67 : decode cX12_sorts 67 = .ok (.goto 7, 3) := by decide +kernel
theorem dX12_sorts_70 : decode cX12_sorts 70 = .ok (.aload_n 0, 1) := by decide +kernel
theorem dX12_sorts_71 : decode cX12_sorts 71 = .ok (.getfield 225, 3) := by decide +kernel
theorem dX12_sorts_74 : decode cX12_sorts 74 = .ok (.ireturn, 1) := by decide +kernel
theorem dX12_past_0 : decode cX12_past 0 = .ok (.aload_n 0, 1) := by decide +kernel
theorem dX12_past_1 : decode cX12_past 1 = .ok (.iload_n 1, 1) := by decide +kernel
theorem dX12_past_2 : decode cX12_past 2 = .ok (.invokevirtual 60, 3) := by decide +kernel
theorem dX12_past_5 : decode cX12_past 5 = .ok (.ifCond .eq 11, 3) := by decide +kernel
theorem dX12_past_8 : decode cX12_past 8 = .ok (.aload_n 0, 1) := by decide +kernel
theorem dX12_past_9 : decode cX12_past 9 = .ok (.iload_n 2, 1) := by decide +kernel
theorem dX12_past_10 : decode cX12_past 10 = .ok (.invokevirtual 60, 3) := by decide +kernel
theorem dX12_past_13 : decode cX12_past 13 = .ok (.ifCond .ne 5, 3) := by decide +kernel
theorem dX12_past_16 : decode cX12_past 16 = .ok (.iconst (-1), 1) := by decide +kernel
theorem dX12_past_17 : decode cX12_past 17 = .ok (.ireturn, 1) := by decide +kernel
theorem dX12_past_18 : decode cX12_past 18 = .ok (.iload_n 1, 1) := by decide +kernel
theorem dX12_past_19 : decode cX12_past 19 = .ok (.iload_n 2, 1) := by decide +kernel
theorem dX12_past_20 : decode cX12_past 20 = .ok (.if_icmp .eq 13, 3) := by decide +kernel
theorem dX12_past_23 : decode cX12_past 23 = .ok (.iload_n 3, 1) := by decide +kernel
theorem dX12_past_24 : decode cX12_past 24 = .ok (.iconst 0, 1) := by decide +kernel
theorem dX12_past_25 : decode cX12_past 25 = .ok (.bipush 99, 2) := by decide +kernel
theorem dX12_past_27 : decode cX12_past 27 = .ok (.invokestatic 48, 3) := by decide +kernel
theorem dX12_past_30 : decode cX12_past 30 = .ok (.ifCond .ne 6, 3) := by decide +kernel
theorem dX12_past_33 : decode cX12_past 33 = .ok (.bipush (-2), 2) := by decide +kernel
theorem dX12_past_35 : decode cX12_past 35 = .ok (.ireturn, 1) := by decide +kernel
theorem dX12_past_36 : decode cX12_past 36 = .ok (.aload_n 0, 1) := by decide +kernel
theorem dX12_past_37 : decode cX12_past 37 = .ok (.getfield 9, 3) := by decide +kernel
theorem dX12_past_40 : decode cX12_past 40 = .ok (.sipush 929, 3) := by decide +kernel
theorem dX12_past_43 : decode cX12_past 43 = .ok (.bipush 6, 2) := by decide +kernel
theorem dX12_past_45 : decode cX12_past 45 = .ok (.iload_n 1, 1) := by decide +kernel
theorem dX12_past_46 : decode cX12_past 46 = .ok (.imul, 1) := by decide +kernel
theorem dX12_past_47 : decode cX12_past 47 = .ok (.iadd, 1) := by decide +kernel
theorem dX12_past_48 : decode cX12_past 48 = .ok (.iload_n 2, 1) := by decide +kernel
theorem dX12_past_49 : decode cX12_past 49 = .ok (.iadd, 1) := by decide +kernel
theorem dX12_past_50 : decode cX12_past 50 = .ok (.iaload, 1) := by decide +kernel
theorem dX12_past_51 : decode cX12_past 51 = .ok (.istore 4, 2) := by decide +kernel
theorem dX12_past_53 : decode cX12_past 53 = .ok (.aload_n 0, 1) := by decide +kernel
theorem dX12_past_54 : decode cX12_past 54 = .ok (.getfield 9, 3) := by decide +kernel
theorem dX12_past_57 : decode cX12_past 57 = .ok (.sipush 929, 3) := by decide +kernel
theorem dX12_past_60 : decode cX12_past 60 = .ok (.bipush 6, 2) := by decide +kernel
theorem dX12_past_62 : decode cX12_past 62 = .ok (.iload_n 1, 1) := by decide +kernel
theorem dX12_past_63 : decode cX12_past 63 = .ok (.imul, 1) := by decide +kernel
theorem dX12_past_64 : decode cX12_past 64 = .ok (.iadd, 1) := by decide +kernel
theorem dX12_past_65 : decode cX12_past 65 = .ok (.iload_n 2, 1) := by decide +kernel
theorem dX12_past_66 : decode cX12_past 66 = .ok (.iadd, 1) := by decide +kernel
theorem dX12_past_67 : decode cX12_past 67 = .ok (.iload_n 3, 1) := by decide +kernel
theorem dX12_past_68 : decode cX12_past 68 = .ok (.iastore, 1) := by decide +kernel
theorem dX12_past_69 : decode cX12_past 69 = .ok (.iload 4, 2) := by decide +kernel
theorem dX12_past_71 : decode cX12_past 71 = .ok (.ireturn, 1) := by decide +kernel
theorem dX12_beatMore_0 : decode cX12_beatMore 0 = .ok (.aload_n 0, 1) := by decide +kernel
theorem dX12_beatMore_1 : decode cX12_beatMore 1 = .ok (.getfield 9, 3) := by decide +kernel
theorem dX12_beatMore_4 : decode cX12_beatMore 4 = .ok (.sipush 929, 3) := by decide +kernel
theorem dX12_beatMore_7 : decode cX12_beatMore 7 = .ok (.bipush 6, 2) := by decide +kernel
theorem dX12_beatMore_9 : decode cX12_beatMore 9 = .ok (.iload_n 1, 1) := by decide +kernel
theorem dX12_beatMore_10 : decode cX12_beatMore 10 = .ok (.imul, 1) := by decide +kernel
theorem dX12_beatMore_11 : decode cX12_beatMore 11 = .ok (.iadd, 1) := by decide +kernel
theorem dX12_beatMore_12 : decode cX12_beatMore 12 = .ok (.iload_n 2, 1) := by decide +kernel
theorem dX12_beatMore_13 : decode cX12_beatMore 13 = .ok (.iadd, 1) := by decide +kernel
theorem dX12_beatMore_14 : decode cX12_beatMore 14 = .ok (.iaload, 1) := by decide +kernel
theorem dX12_beatMore_15 : decode cX12_beatMore 15 = .ok (.aload_n 0, 1) := by decide +kernel
theorem dX12_beatMore_16 : decode cX12_beatMore 16 = .ok (.getfield 9, 3) := by decide +kernel
theorem dX12_beatMore_19 : decode cX12_beatMore 19 = .ok (.sipush 929, 3) := by decide +kernel
theorem dX12_beatMore_22 : decode cX12_beatMore 22 = .ok (.bipush 6, 2) := by decide +kernel
theorem dX12_beatMore_24 : decode cX12_beatMore 24 = .ok (.iload_n 2, 1) := by decide +kernel
theorem dX12_beatMore_25 : decode cX12_beatMore 25 = .ok (.imul, 1) := by decide +kernel
theorem dX12_beatMore_26 : decode cX12_beatMore 26 = .ok (.iadd, 1) := by decide +kernel
theorem dX12_beatMore_27 : decode cX12_beatMore 27 = .ok (.iload_n 1, 1) := by decide +kernel
theorem dX12_beatMore_28 : decode cX12_beatMore 28 = .ok (.iadd, 1) := by decide +kernel
theorem dX12_beatMore_29 : decode cX12_beatMore 29 = .ok (.iaload, 1) := by decide +kernel
theorem dX12_beatMore_30 : decode cX12_beatMore 30 = .ok (.if_icmp .le 7, 3) := by decide +kernel
theorem dX12_beatMore_33 : decode cX12_beatMore 33 = .ok (.iconst 1, 1) := by decide +kernel
theorem dX12_beatMore_34 : decode cX12_beatMore 34 = .ok (.goto 4, 3) := by decide +kernel
theorem dX12_beatMore_37 : decode cX12_beatMore 37 = .ok (.iconst 0, 1) := by decide +kernel
theorem dX12_beatMore_38 : decode cX12_beatMore 38 = .ok (.ireturn, 1) := by decide +kernel
theorem dX12_really_0 : decode cX12_really 0 = .ok (.iload_n 1, 1) := by decide +kernel
theorem dX12_really_1 : decode cX12_really 1 = .ok (.iconst 0, 1) := by decide +kernel
theorem dX12_really_2 : decode cX12_really 2 = .ok (.iconst 2, 1) := by decide +kernel
theorem dX12_really_3 : decode cX12_really 3 = .ok (.invokestatic 48, 3) := by decide +kernel
theorem dX12_really_6 : decode cX12_really 6 = .ok (.ifCond .ne 5, 3) := by decide +kernel
theorem dX12_really_9 : decode cX12_really 9 = .ok (.iconst (-1), 1) := by decide +kernel
theorem dX12_really_10 : decode cX12_really 10 = .ok (.ireturn, 1) := by decide +kernel
theorem dX12_really_11 : decode cX12_really 11 = .ok (.iconst 0, 1) := by decide +kernel
theorem dX12_really_12 : decode cX12_really 12 = .ok (.istore_n 2, 1) := by decide +kernel
theorem dX12_really_13 : decode cX12_really 13 = .ok (.iconst 0, 1) := by decide +kernel
theorem dX12_really_14 : decode cX12_really 14 = .ok (.istore_n 3, 1) := by decide +kernel
theorem dX12_really_15 : decode cX12_really 15 = .ok (.iconst 0, 1) := by decide +kernel
theorem dX12_really_16 : decode cX12_really 16 = .ok (.istore 4, 2) := by decide +kernel
theorem dX12_really_18 : decode cX12_really 18 = .ok (.iload 4, 2) := by decide +kernel
theorem dX12_really_20 : decode cX12_really 20 = .ok (.aload_n 0, 1) := by decide +kernel
theorem dX12_really_21 : decode cX12_really 21 = .ok (.getfield 9, 3) := by decide +kernel
theorem dX12_really_24 : decode cX12_really 24 = .ok (.iconst 0, 1) := by decide +kernel
theorem dX12_really_25 : decode cX12_really 25 = .ok (.iaload, 1) := by decide +kernel
theorem dX12_really_26 : decode cX12_really 26 = .ok (.if_icmp .ge 142, 3) := by decide +kernel
theorem dX12_really_29 : decode cX12_really 29 = .ok (.iload 4, 2) := by decide +kernel
theorem dX12_really_31 : decode cX12_really 31 = .ok (.iconst 1, 1) := by decide +kernel
theorem dX12_really_32 : decode cX12_really 32 = .ok (.iadd, 1) := by decide +kernel
theorem dX12_really_33 : decode cX12_really 33 = .ok (.istore 5, 2) := by decide +kernel
theorem dX12_really_35 : decode cX12_really 35 = .ok (.iload 5, 2) := by decide +kernel
theorem dX12_really_37 : decode cX12_really 37 = .ok (.aload_n 0, 1) := by decide +kernel
theorem dX12_really_38 : decode cX12_really 38 = .ok (.getfield 9, 3) := by decide +kernel
theorem dX12_really_41 : decode cX12_really 41 = .ok (.iconst 0, 1) := by decide +kernel
theorem dX12_really_42 : decode cX12_really 42 = .ok (.iaload, 1) := by decide +kernel
theorem dX12_really_43 : decode cX12_really 43 = .ok (.if_icmp .ge 119, 3) := by decide +kernel
theorem dX12_really_46 : decode cX12_really 46 = .ok (.iload_n 3, 1) := by decide +kernel
theorem dX12_really_47 : decode cX12_really 47 = .ok (.aload_n 0, 1) := by decide +kernel
theorem dX12_really_48 : decode cX12_really 48 = .ok (.getfield 9, 3) := by decide +kernel
theorem dX12_really_51 : decode cX12_really 51 = .ok (.sipush 929, 3) := by decide +kernel
theorem dX12_really_54 : decode cX12_really 54 = .ok (.bipush 6, 2) := by decide +kernel
theorem dX12_really_56 : decode cX12_really 56 = .ok (.iload 4, 2) := by decide +kernel
theorem dX12_really_58 : decode cX12_really 58 = .ok (.imul, 1) := by decide +kernel
theorem dX12_really_59 : decode cX12_really 59 = .ok (.iadd, 1) := by decide +kernel
theorem dX12_really_60 : decode cX12_really 60 = .ok (.iload 5, 2) := by decide +kernel
theorem dX12_really_62 : decode cX12_really 62 = .ok (.iadd, 1) := by decide +kernel
theorem dX12_really_63 : decode cX12_really 63 = .ok (.iaload, 1) := by decide +kernel
theorem dX12_really_64 : decode cX12_really 64 = .ok (.aload_n 0, 1) := by decide +kernel
theorem dX12_really_65 : decode cX12_really 65 = .ok (.getfield 9, 3) := by decide +kernel
theorem dX12_really_68 : decode cX12_really 68 = .ok (.sipush 929, 3) := by decide +kernel
theorem dX12_really_71 : decode cX12_really 71 = .ok (.bipush 6, 2) := by decide +kernel
theorem dX12_really_73 : decode cX12_really 73 = .ok (.iload 5, 2) := by decide +kernel
theorem dX12_really_75 : decode cX12_really 75 = .ok (.imul, 1) := by decide +kernel
theorem dX12_really_76 : decode cX12_really 76 = .ok (.iadd, 1) := by decide +kernel
theorem dX12_really_77 : decode cX12_really 77 = .ok (.iload 4, 2) := by decide +kernel
theorem dX12_really_79 : decode cX12_really 79 = .ok (.iadd, 1) := by decide +kernel
theorem dX12_really_80 : decode cX12_really 80 = .ok (.iaload, 1) := by decide +kernel
theorem dX12_really_81 : decode cX12_really 81 = .ok (.iadd, 1) := by decide +kernel
theorem dX12_really_82 : decode cX12_really 82 = .ok (.ifCond .ne 7, 3) := by decide +kernel
theorem dX12_really_85 : decode cX12_really 85 = .ok (.iconst 1, 1) := by decide +kernel
theorem dX12_really_86 : decode cX12_really 86 = .ok (.goto 4, 3) := by decide +kernel
theorem dX12_really_89 : decode cX12_really 89 = .ok (.iconst 0, 1) := by decide +kernel
theorem dX12_really_90 : decode cX12_really 90 = .ok (.iadd, 1) := by decide +kernel
theorem dX12_really_91 : decode cX12_really 91 = .ok (.istore_n 3, 1) := by decide +kernel
theorem dX12_really_92 : decode cX12_really 92 = .ok (.iload 4, 2) := by decide +kernel
theorem dX12_really_94 : decode cX12_really 94 = .ok (.iconst 1, 1) := by decide +kernel
theorem dX12_really_95 : decode cX12_really 95 = .ok (.iadd, 1) := by decide +kernel
theorem dX12_really_96 : decode cX12_really 96 = .ok (.istore 6, 2) := by decide +kernel
theorem dX12_really_98 : decode cX12_really 98 = .ok (.iload 6, 2) := by decide +kernel
theorem dX12_really_100 : decode cX12_really 100 = .ok (.aload_n 0, 1) := by decide +kernel
theorem dX12_really_101 : decode cX12_really 101 = .ok (.getfield 9, 3) := by decide +kernel
theorem dX12_really_104 : decode cX12_really 104 = .ok (.iconst 0, 1) := by decide +kernel
theorem dX12_really_105 : decode cX12_really 105 = .ok (.iaload, 1) := by decide +kernel
theorem dX12_really_106 : decode cX12_really 106 = .ok (.if_icmp .ge 50, 3) := by decide +kernel
theorem dX12_really_109 : decode cX12_really 109 = .ok (.iload_n 2, 1) := by decide +kernel
theorem dX12_really_110 : decode cX12_really 110 = .ok (.aload_n 0, 1) := by decide +kernel
theorem dX12_really_111 : decode cX12_really 111 = .ok (.iload 4, 2) := by decide +kernel
theorem dX12_really_113 : decode cX12_really 113 = .ok (.iload 5, 2) := by decide +kernel
theorem dX12_really_115 : decode cX12_really 115 = .ok (.invokevirtual 250, 3) := by decide +kernel
theorem dX12_really_118 : decode cX12_really 118 = .ok (.ifCond .eq 29, 3) := by decide +kernel
theorem dX12_really_121 : decode cX12_really 121 = .ok (.aload_n 0, 1) := by decide +kernel
theorem dX12_really_122 : decode cX12_really 122 = .ok (.iload 5, 2) := by decide +kernel
theorem dX12_really_124 : decode cX12_really 124 = .ok (.iload 6, 2) := by decide +kernel
theorem dX12_really_126 : decode cX12_really 126 = .ok (.invokevirtual 250, 3) := by decide +kernel
theorem dX12_really_129 : decode cX12_really 129 = .ok (.ifCond .eq 18, 3) := by decide +kernel
theorem dX12_really_132 : decode cX12_really 132 = .ok (.aload_n 0, 1) := by decide +kernel
theorem dX12_really_133 : decode cX12_really 133 = .ok (.iload 6, 2) := by decide +kernel
theorem dX12_really_135 : decode cX12_really 135 = .ok (.iload 4, 2) := by decide +kernel
theorem dX12_really_137 : decode cX12_really 137 = .ok (.invokevirtual 250, 3) := by decide +kernel
theorem dX12_really_140 : decode cX12_really 140 = .ok (.ifCond .eq 7, 3) := by decide +kernel
theorem dX12_really_143 : decode cX12_really 143 = .ok (.iconst 1, 1) := by decide +kernel
theorem dX12_really_144 : decode cX12_really 144 = .ok (.goto 4, 3) := by decide +kernel
theorem dX12_really_147 : decode cX12_really 147 = .ok (.iconst 0, 1) := by decide +kernel
theorem dX12_really_148 : decode cX12_really 148 = .ok (.iadd, 1) := by decide +kernel
theorem dX12_really_149 : decode cX12_really 149 = .ok (.istore_n 2, 1) := by decide +kernel
theorem dX12_really_150 : decode cX12_really 150 = .ok (.iinc 6 1, 3) := by decide +kernel
theorem dX12_really_153 : decode cX12_really 153 = .ok (.goto (-55), 3) := by decide +kernel
theorem dX12_really_156 : decode cX12_really 156 = .ok (.iinc 5 1, 3) := by decide +kernel
theorem dX12_really_159 : decode cX12_really 159 = .ok (.goto (-124), 3) := by decide +kernel
theorem dX12_really_162 : decode cX12_really 162 = .ok (.iinc 4 1, 3) := by decide +kernel
theorem dX12_really_165 : decode cX12_really 165 = .ok (.goto (-147), 3) := by decide +kernel
theorem dX12_really_168 : decode cX12_really 168 = .ok (.iload_n 1, 1) := by decide +kernel
theorem dX12_really_169 : decode cX12_really 169 = .ok (.iconst 2, 1) := by decide +kernel
theorem dX12_really_170 : decode cX12_really 170 = .ok (.if_icmp .ge 13, 3) := by decide +kernel
theorem dX12_really_173 : decode cX12_really 173 = .ok (.iload_n 1, 1) := by decide +kernel
theorem dX12_really_174 : decode cX12_really 174 = .ok (.ifCond .ne 7, 3) := by decide +kernel
theorem dX12_really_177 : decode cX12_really 177 = .ok (.iload_n 2, 1) := by decide +kernel
theorem dX12_really_178 : decode cX12_really 178 = .ok (.goto 4, 3) := by decide +kernel
theorem dX12_really_181 : decode cX12_really 181 = .ok (.iload_n 3, 1) := by decide +kernel
theorem dX12_really_182 : decode cX12_really 182 = .ok (.ireturn, 1) := by decide +kernel
theorem dX12_really_183 : decode cX12_really 183 = .ok (.aload_n 0, 1) := by decide +kernel
theorem dX12_really_184 : decode cX12_really 184 = .ok (.invokevirtual 247, 3) := by decide +kernel
theorem dX12_really_187 : decode cX12_really 187 = .ok (.aload_n 0, 1) := by decide +kernel
theorem dX12_really_188 : decode cX12_really 188 = .ok (.getfield 238, 3) := by decide +kernel
theorem dX12_really_191 : decode cX12_really 191 = .ok (.ireturn, 1) := by decide +kernel
theorem dX12_order_0 : decode cX12_order 0 = .ok (.iload_n 1, 1) := by decide +kernel
theorem dX12_order_1 : decode cX12_order 1 = .ok (.iconst 0, 1) := by decide +kernel
theorem dX12_order_2 : decode cX12_order 2 = .ok (.aload_n 0, 1) := by decide +kernel
theorem dX12_order_3 : decode cX12_order 3 = .ok (.getfield 9, 3) := by decide +kernel
theorem dX12_order_6 : decode cX12_order 6 = .ok (.iconst 0, 1) := by decide +kernel
theorem dX12_order_7 : decode cX12_order 7 = .ok (.iaload, 1) := by decide +kernel
theorem dX12_order_8 : decode cX12_order 8 = .ok (.iconst 1, 1) := by decide +kernel
theorem dX12_order_9 : decode cX12_order 9 = .ok (.isub, 1) := by decide +kernel
theorem dX12_order_10 : decode cX12_order 10 = .ok (.invokestatic 48, 3) := by decide +kernel
theorem dX12_order_13 : decode cX12_order 13 = .ok (.ifCond .ne 5, 3) := by decide +kernel
theorem dX12_order_16 : decode cX12_order 16 = .ok (.iconst (-1), 1) := by decide +kernel
theorem dX12_order_17 : decode cX12_order 17 = .ok (.ireturn, 1) := by decide +kernel
theorem dX12_order_18 : decode cX12_order 18 = .ok (.aload_n 0, 1) := by decide +kernel
theorem dX12_order_19 : decode cX12_order 19 = .ok (.invokevirtual 247, 3) := by decide +kernel
theorem dX12_order_22 : decode cX12_order 22 = .ok (.aload_n 0, 1) := by decide +kernel
theorem dX12_order_23 : decode cX12_order 23 = .ok (.getfield 241, 3) := by decide +kernel
theorem dX12_order_26 : decode cX12_order 26 = .ok (.iload_n 1, 1) := by decide +kernel
theorem dX12_order_27 : decode cX12_order 27 = .ok (.invokestatic 52, 3) := by decide +kernel
theorem dX12_order_30 : decode cX12_order 30 = .ok (.ireturn, 1) := by decide +kernel
theorem dX12_run_0 : decode cX12_run 0 = .ok (.aload_n 0, 1) := by decide +kernel
theorem dX12_run_1 : decode cX12_run 1 = .ok (.iload_n 1, 1) := by decide +kernel
theorem dX12_run_2 : decode cX12_run 2 = .ok (.invokevirtual 156, 3) := by decide +kernel
theorem dX12_run_5 : decode cX12_run 5 = .ok (.ifCond .ne 5, 3) := by decide +kernel
theorem dX12_run_8 : decode cX12_run 8 = .ok (.iconst (-1), 1) := by decide +kernel
theorem dX12_run_9 : decode cX12_run 9 = .ok (.ireturn, 1) := by decide +kernel
theorem dX12_run_10 : decode cX12_run 10 = .ok (.iload_n 2, 1) := by decide +kernel
theorem dX12_run_11 : decode cX12_run 11 = .ok (.iconst 1, 1) := by decide +kernel
theorem dX12_run_12 : decode cX12_run 12 = .ok (.bipush 99, 2) := by decide +kernel
theorem dX12_run_14 : decode cX12_run 14 = .ok (.invokestatic 48, 3) := by decide +kernel
theorem dX12_run_17 : decode cX12_run 17 = .ok (.ifCond .eq 28, 3) := by decide +kernel
theorem dX12_run_20 : decode cX12_run 20 = .ok (.iload_n 3, 1) := by decide +kernel
theorem dX12_run_21 : decode cX12_run 21 = .ok (.iconst 0, 1) := by decide +kernel
theorem dX12_run_22 : decode cX12_run 22 = .ok (.sipush 999, 3) := by decide +kernel
theorem dX12_run_25 : decode cX12_run 25 = .ok (.invokestatic 48, 3) := by decide +kernel
theorem dX12_run_28 : decode cX12_run 28 = .ok (.ifCond .eq 17, 3) := by decide +kernel
theorem dX12_run_31 : decode cX12_run 31 = .ok (.aload_n 0, 1) := by decide +kernel
theorem dX12_run_32 : decode cX12_run 32 = .ok (.getfield 9, 3) := by decide +kernel
theorem dX12_run_35 : decode cX12_run 35 = .ok (.iconst 2, 1) := by decide +kernel
theorem dX12_run_36 : decode cX12_run 36 = .ok (.iaload, 1) := by decide +kernel
theorem dX12_run_37 : decode cX12_run 37 = .ok (.iload_n 2, 1) := by decide +kernel
theorem dX12_run_38 : decode cX12_run 38 = .ok (.iadd, 1) := by decide +kernel
theorem dX12_run_39 : decode cX12_run 39 = .ok (.sipush 999, 3) := by decide +kernel
theorem dX12_run_42 : decode cX12_run 42 = .ok (.if_icmp .le 6, 3) := by decide +kernel
theorem dX12_run_45 : decode cX12_run 45 = .ok (.bipush (-2), 2) := by decide +kernel
theorem dX12_run_47 : decode cX12_run 47 = .ok (.ireturn, 1) := by decide +kernel
theorem dX12_run_48 : decode cX12_run 48 = .ok (.iconst 0, 1) := by decide +kernel
theorem dX12_run_49 : decode cX12_run 49 = .ok (.istore 4, 2) := by decide +kernel
theorem dX12_run_51 : decode cX12_run 51 = .ok (.iload 4, 2) := by decide +kernel
theorem dX12_run_53 : decode cX12_run 53 = .ok (.iload_n 2, 1) := by decide +kernel
theorem dX12_run_54 : decode cX12_run 54 = .ok (.if_icmp .ge 172, 3) := by decide +kernel
theorem dX12_run_57 : decode cX12_run 57 = .ok (.aload_n 0, 1) := by decide +kernel
theorem dX12_run_58 : decode cX12_run 58 = .ok (.getfield 9, 3) := by decide +kernel
theorem dX12_run_61 : decode cX12_run 61 = .ok (.iconst 2, 1) := by decide +kernel
theorem dX12_run_62 : decode cX12_run 62 = .ok (.iaload, 1) := by decide +kernel
theorem dX12_run_63 : decode cX12_run 63 = .ok (.istore 5, 2) := by decide +kernel
theorem dX12_run_65 : decode cX12_run 65 = .ok (.aload_n 0, 1) := by decide +kernel
theorem dX12_run_66 : decode cX12_run 66 = .ok (.getfield 9, 3) := by decide +kernel
theorem dX12_run_69 : decode cX12_run 69 = .ok (.iconst 0, 1) := by decide +kernel
theorem dX12_run_70 : decode cX12_run 70 = .ok (.iaload, 1) := by decide +kernel
theorem dX12_run_71 : decode cX12_run 71 = .ok (.ifCond .le 139, 3) := by decide +kernel
theorem dX12_run_74 : decode cX12_run 74 = .ok (.aload_n 0, 1) := by decide +kernel
theorem dX12_run_75 : decode cX12_run 75 = .ok (.getfield 9, 3) := by decide +kernel
theorem dX12_run_78 : decode cX12_run 78 = .ok (.bipush 6, 2) := by decide +kernel
theorem dX12_run_80 : decode cX12_run 80 = .ok (.iaload, 1) := by decide +kernel
theorem dX12_run_81 : decode cX12_run 81 = .ok (.aload_n 0, 1) := by decide +kernel
theorem dX12_run_82 : decode cX12_run 82 = .ok (.getfield 9, 3) := by decide +kernel
theorem dX12_run_85 : decode cX12_run 85 = .ok (.iconst 0, 1) := by decide +kernel
theorem dX12_run_86 : decode cX12_run 86 = .ok (.iaload, 1) := by decide +kernel
theorem dX12_run_87 : decode cX12_run 87 = .ok (.iconst 1, 1) := by decide +kernel
theorem dX12_run_88 : decode cX12_run 88 = .ok (.isub, 1) := by decide +kernel
theorem dX12_run_89 : decode cX12_run 89 = .ok (.iload 5, 2) := by decide +kernel
theorem dX12_run_91 : decode cX12_run 91 = .ok (.aload_n 0, 1) := by decide +kernel
theorem dX12_run_92 : decode cX12_run 92 = .ok (.getfield 9, 3) := by decide +kernel
theorem dX12_run_95 : decode cX12_run 95 = .ok (.iconst 0, 1) := by decide +kernel
theorem dX12_run_96 : decode cX12_run 96 = .ok (.iaload, 1) := by decide +kernel
theorem dX12_run_97 : decode cX12_run 97 = .ok (.irem, 1) := by decide +kernel
theorem dX12_run_98 : decode cX12_run 98 = .ok (.isub, 1) := by decide +kernel
theorem dX12_run_99 : decode cX12_run 99 = .ok (.invokestatic 52, 3) := by decide +kernel
theorem dX12_run_102 : decode cX12_run 102 = .ok (.istore 6, 2) := by decide +kernel
theorem dX12_run_104 : decode cX12_run 104 = .ok (.aload_n 0, 1) := by decide +kernel
theorem dX12_run_105 : decode cX12_run 105 = .ok (.iload_n 1, 1) := by decide +kernel
theorem dX12_run_106 : decode cX12_run 106 = .ok (.aload_n 0, 1) := by decide +kernel
theorem dX12_run_107 : decode cX12_run 107 = .ok (.getfield 9, 3) := by decide +kernel
theorem dX12_run_110 : decode cX12_run 110 = .ok (.bipush 6, 2) := by decide +kernel
theorem dX12_run_112 : decode cX12_run 112 = .ok (.iaload, 1) := by decide +kernel
theorem dX12_run_113 : decode cX12_run 113 = .ok (.iload 6, 2) := by decide +kernel
theorem dX12_run_115 : decode cX12_run 115 = .ok (.iload 5, 2) := by decide +kernel
theorem dX12_run_117 : decode cX12_run 117 = .ok (.invokevirtual 169, 3) := by decide +kernel
theorem dX12_run_120 : decode cX12_run 120 = .ok (.istore 7, 2) := by decide +kernel
theorem dX12_run_122 : decode cX12_run 122 = .ok (.iload 7, 2) := by decide +kernel
theorem dX12_run_124 : decode cX12_run 124 = .ok (.bipush (-5), 2) := by decide +kernel
theorem dX12_run_126 : decode cX12_run 126 = .ok (.if_icmp .eq 43, 3) := by decide +kernel
theorem dX12_run_129 : decode cX12_run 129 = .ok (.bipush 31, 2) := by decide +kernel
theorem dX12_run_131 : decode cX12_run 131 = .ok (.iload_n 3, 1) := by decide +kernel
theorem dX12_run_132 : decode cX12_run 132 = .ok (.imul, 1) := by decide +kernel
theorem dX12_run_133 : decode cX12_run 133 = .ok (.bipush 17, 2) := by decide +kernel
theorem dX12_run_135 : decode cX12_run 135 = .ok (.iload 5, 2) := by decide +kernel
theorem dX12_run_137 : decode cX12_run 137 = .ok (.imul, 1) := by decide +kernel
theorem dX12_run_138 : decode cX12_run 138 = .ok (.iadd, 1) := by decide +kernel
theorem dX12_run_139 : decode cX12_run 139 = .ok (.bipush 7, 2) := by decide +kernel
theorem dX12_run_141 : decode cX12_run 141 = .ok (.imul, 1) := by decide +kernel
theorem dX12_run_142 : decode cX12_run 142 = .ok (.bipush 100, 2) := by decide +kernel
theorem dX12_run_144 : decode cX12_run 144 = .ok (.irem, 1) := by decide +kernel
theorem dX12_run_145 : decode cX12_run 145 = .ok (.aload_n 0, 1) := by decide +kernel
theorem dX12_run_146 : decode cX12_run 146 = .ok (.getfield 9, 3) := by decide +kernel
theorem dX12_run_149 : decode cX12_run 149 = .ok (.sipush 130, 3) := by decide +kernel
theorem dX12_run_152 : decode cX12_run 152 = .ok (.bipush 6, 2) := by decide +kernel
theorem dX12_run_154 : decode cX12_run 154 = .ok (.iload 6, 2) := by decide +kernel
theorem dX12_run_156 : decode cX12_run 156 = .ok (.imul, 1) := by decide +kernel
theorem dX12_run_157 : decode cX12_run 157 = .ok (.iadd, 1) := by decide +kernel
theorem dX12_run_158 : decode cX12_run 158 = .ok (.iload 7, 2) := by decide +kernel
theorem dX12_run_160 : decode cX12_run 160 = .ok (.iadd, 1) := by decide +kernel
theorem dX12_run_161 : decode cX12_run 161 = .ok (.iaload, 1) := by decide +kernel
theorem dX12_run_162 : decode cX12_run 162 = .ok (.if_icmp .ge 7, 3) := by decide +kernel
theorem dX12_run_165 : decode cX12_run 165 = .ok (.iconst 1, 1) := by decide +kernel
theorem dX12_run_166 : decode cX12_run 166 = .ok (.goto 4, 3) := by decide +kernel
theorem dX12_run_169 : decode cX12_run 169 = .ok (.iconst 0, 1) := by decide +kernel
theorem dX12_run_170 : decode cX12_run 170 = .ok (.istore 8, 2) := by decide +kernel
theorem dX12_run_172 : decode cX12_run 172 = .ok (.aload_n 0, 1) := by decide +kernel
theorem dX12_run_173 : decode cX12_run 173 = .ok (.getfield 9, 3) := by decide +kernel
theorem dX12_run_176 : decode cX12_run 176 = .ok (.bipush 6, 2) := by decide +kernel
theorem dX12_run_178 : decode cX12_run 178 = .ok (.iload 8, 2) := by decide +kernel
theorem dX12_run_180 : decode cX12_run 180 = .ok (.ifCond .eq 22, 3) := by decide +kernel
theorem dX12_run_183 : decode cX12_run 183 = .ok (.aload_n 0, 1) := by decide +kernel
theorem dX12_run_184 : decode cX12_run 184 = .ok (.iload_n 1, 1) := by decide +kernel
theorem dX12_run_185 : decode cX12_run 185 = .ok (.aload_n 0, 1) := by decide +kernel
theorem dX12_run_186 : decode cX12_run 186 = .ok (.getfield 9, 3) := by decide +kernel
theorem dX12_run_189 : decode cX12_run 189 = .ok (.bipush 6, 2) := by decide +kernel
theorem dX12_run_191 : decode cX12_run 191 = .ok (.iaload, 1) := by decide +kernel
theorem dX12_run_192 : decode cX12_run 192 = .ok (.iload 6, 2) := by decide +kernel
theorem dX12_run_194 : decode cX12_run 194 = .ok (.iload 7, 2) := by decide +kernel
theorem dX12_run_196 : decode cX12_run 196 = .ok (.invokevirtual 172, 3) := by decide +kernel
theorem dX12_run_199 : decode cX12_run 199 = .ok (.goto 10, 3) := by decide +kernel
theorem dX12_run_202 : decode cX12_run 202 = .ok (.aload_n 0, 1) := by decide +kernel
theorem dX12_run_203 : decode cX12_run 203 = .ok (.getfield 9, 3) := by decide +kernel
theorem dX12_run_206 : decode cX12_run 206 = .ok (.bipush 6, 2) := by decide +kernel
theorem dX12_run_208 : decode cX12_run 208 = .ok (.iaload, 1) := by decide +kernel
theorem dX12_run_209 : decode cX12_run 209 = .ok (.iastore, 1) := by decide +kernel
theorem dX12_run_210 : decode cX12_run 210 = .ok (.aload_n 0, 1) := by decide +kernel
theorem dX12_run_211 : decode cX12_run 211 = .ok (.getfield 9, 3) := by decide +kernel
theorem dX12_run_214 : decode cX12_run 214 = .ok (.iconst 2, 1) := by decide +kernel
theorem dX12_run_215 : decode cX12_run 215 = .ok (.dup2, 1) := by decide +kernel
theorem dX12_run_216 : decode cX12_run 216 = .ok (.iaload, 1) := by decide +kernel
theorem dX12_run_217 : decode cX12_run 217 = .ok (.iconst 1, 1) := by decide +kernel
theorem dX12_run_218 : decode cX12_run 218 = .ok (.iadd, 1) := by decide +kernel
theorem dX12_run_219 : decode cX12_run 219 = .ok (.iastore, 1) := by decide +kernel
theorem dX12_run_220 : decode cX12_run 220 = .ok (.iinc 4 1, 3) := by decide +kernel
theorem dX12_run_223 : decode cX12_run 223 = .ok (.goto (-172), 3) := by decide +kernel
theorem dX12_run_226 : decode cX12_run 226 = .ok (.aload_n 0, 1) := by decide +kernel
theorem dX12_run_227 : decode cX12_run 227 = .ok (.invokevirtual 253, 3) := by decide +kernel
theorem dX12_run_230 : decode cX12_run 230 = .ok (.ireturn, 1) := by decide +kernel
theorem dX12_runs_0 : decode cX12_runs 0 = .ok (.aload_n 0, 1) := by decide +kernel
theorem dX12_runs_1 : decode cX12_runs 1 = .ok (.getfield 256, 3) := by decide +kernel
theorem dX12_runs_4 : decode cX12_runs 4 = .ok (.bipush 20, 2) := by decide +kernel
theorem dX12_runs_6 : decode cX12_runs 6 = .ok (.if_icmp .ge 13, 3) := by decide +kernel
theorem dX12_runs_9 : decode cX12_runs 9 = .ok (.aload_n 0, 1) := by decide +kernel
theorem dX12_runs_10 : decode cX12_runs 10 = .ok (.getfield 42, 3) := by decide +kernel
theorem dX12_runs_13 : decode cX12_runs 13 = .ok (.aload_n 0, 1) := by decide +kernel
theorem dX12_runs_14 : decode cX12_runs 14 = .ok (.getfield 256, 3) := by decide +kernel
theorem dX12_runs_17 : decode cX12_runs 17 = .ok (.iload_n 1, 1) := by decide +kernel
theorem dX12_runs_18 : decode cX12_runs 18 = .ok (.iastore, 1) := by decide +kernel
theorem dX12_runs_19 : decode cX12_runs 19 = .ok (.aload_n 0, 1) := by decide +kernel
theorem dX12_runs_20 : decode cX12_runs 20 = .ok (.dup, 1) := by decide +kernel
theorem dX12_runs_21 : decode cX12_runs 21 = .ok (.getfield 256, 3) := by decide +kernel
theorem dX12_runs_24 : decode cX12_runs 24 = .ok (.iconst 1, 1) := by decide +kernel
theorem dX12_runs_25 : decode cX12_runs 25 = .ok (.iadd, 1) := by decide +kernel
theorem dX12_runs_26 : decode cX12_runs 26 = .ok (.putfield 256, 3) := by decide +kernel
theorem dX12_runs_29 : decode cX12_runs 29 = .ok (.return_, 1) := by decide +kernel
theorem dX12_isUnder_0 : decode cX12_isUnder 0 = .ok (.iload_n 1, 1) := by decide +kernel
theorem dX12_isUnder_1 : decode cX12_isUnder 1 = .ok (.ifCond .eq 34, 3) := by decide +kernel
theorem dX12_isUnder_4 : decode cX12_isUnder 4 = .ok (.iload_n 1, 1) := by decide +kernel
theorem dX12_isUnder_5 : decode cX12_isUnder 5 = .ok (.iload_n 0, 1) := by decide +kernel
theorem dX12_isUnder_6 : decode cX12_isUnder 6 = .ok (.if_icmp .eq 29, 3) := by decide +kernel
theorem dX12_isUnder_9 : decode cX12_isUnder 9 = .ok (.iload_n 1, 1) := by decide +kernel
theorem dX12_isUnder_10 : decode cX12_isUnder 10 = .ok (.iconst 2, 1) := by decide +kernel
theorem dX12_isUnder_11 : decode cX12_isUnder 11 = .ok (.if_icmp .ne 13, 3) := by decide +kernel
theorem dX12_isUnder_14 : decode cX12_isUnder 14 = .ok (.iload_n 0, 1) := by decide +kernel
theorem dX12_isUnder_15 : decode cX12_isUnder 15 = .ok (.iconst 3, 1) := by decide +kernel
theorem dX12_isUnder_16 : decode cX12_isUnder 16 = .ok (.if_icmp .eq 19, 3) := by decide +kernel
theorem dX12_isUnder_19 : decode cX12_isUnder 19 = .ok (.iload_n 0, 1) := by decide +kernel
theorem dX12_isUnder_20 : decode cX12_isUnder 20 = .ok (.iconst 4, 1) := by decide +kernel
theorem dX12_isUnder_21 : decode cX12_isUnder 21 = .ok (.if_icmp .eq 14, 3) := by decide +kernel
theorem dX12_isUnder_24 : decode cX12_isUnder 24 = .ok (.iload_n 1, 1) := by decide +kernel
theorem dX12_isUnder_25 : decode cX12_isUnder 25 = .ok (.iconst 5, 1) := by decide +kernel
theorem dX12_isUnder_26 : decode cX12_isUnder 26 = .ok (.if_icmp .ne 13, 3) := by decide +kernel
theorem dX12_isUnder_29 : decode cX12_isUnder 29 = .ok (.iload_n 0, 1) := by decide +kernel
theorem dX12_isUnder_30 : decode cX12_isUnder 30 = .ok (.bipush 6, 2) := by decide +kernel
theorem dX12_isUnder_32 : decode cX12_isUnder 32 = .ok (.if_icmp .ne 7, 3) := by decide +kernel
theorem dX12_isUnder_35 : decode cX12_isUnder 35 = .ok (.iconst 1, 1) := by decide +kernel
theorem dX12_isUnder_36 : decode cX12_isUnder 36 = .ok (.goto 4, 3) := by decide +kernel
theorem dX12_isUnder_39 : decode cX12_isUnder 39 = .ok (.iconst 0, 1) := by decide +kernel
theorem dX12_isUnder_40 : decode cX12_isUnder 40 = .ok (.ireturn, 1) := by decide +kernel
theorem dX12_plainAsks_0 : decode cX12_plainAsks 0 = .ok (.aload_n 0, 1) := by decide +kernel
theorem dX12_plainAsks_1 : decode cX12_plainAsks 1 = .ok (.iconst 1, 1) := by decide +kernel
theorem dX12_plainAsks_2 : decode cX12_plainAsks 2 = .ok (.invokevirtual 259, 3) := by decide +kernel
theorem dX12_plainAsks_5 : decode cX12_plainAsks 5 = .ok (.iload_n 1, 1) := by decide +kernel
theorem dX12_plainAsks_6 : decode cX12_plainAsks 6 = .ok (.aload_n 0, 1) := by decide +kernel
theorem dX12_plainAsks_7 : decode cX12_plainAsks 7 = .ok (.getfield 262, 3) := by decide +kernel
theorem dX12_plainAsks_10 : decode cX12_plainAsks 10 = .ok (.iadd, 1) := by decide +kernel
theorem dX12_plainAsks_11 : decode cX12_plainAsks 11 = .ok (.ireturn, 1) := by decide +kernel
theorem dX12_asksActs_0 : decode cX12_asksActs 0 = .ok (.aload_n 0, 1) := by decide +kernel
theorem dX12_asksActs_1 : decode cX12_asksActs 1 = .ok (.getfield 265, 3) := by decide +kernel
theorem dX12_asksActs_4 : decode cX12_asksActs 4 = .ok (.iconst 1, 1) := by decide +kernel
theorem dX12_asksActs_5 : decode cX12_asksActs 5 = .ok (.if_icmp .ne 17, 3) := by decide +kernel
theorem dX12_asksActs_8 : decode cX12_asksActs 8 = .ok (.aload_n 0, 1) := by decide +kernel
theorem dX12_asksActs_9 : decode cX12_asksActs 9 = .ok (.bipush 11, 2) := by decide +kernel
theorem dX12_asksActs_11 : decode cX12_asksActs 11 = .ok (.invokevirtual 259, 3) := by decide +kernel
theorem dX12_asksActs_14 : decode cX12_asksActs 14 = .ok (.aload_n 0, 1) := by decide +kernel
theorem dX12_asksActs_15 : decode cX12_asksActs 15 = .ok (.iload_n 1, 1) := by decide +kernel
theorem dX12_asksActs_16 : decode cX12_asksActs 16 = .ok (.iconst 3, 1) := by decide +kernel
theorem dX12_asksActs_17 : decode cX12_asksActs 17 = .ok (.imul, 1) := by decide +kernel
theorem dX12_asksActs_18 : decode cX12_asksActs 18 = .ok (.invokevirtual 268, 3) := by decide +kernel
theorem dX12_asksActs_21 : decode cX12_asksActs 21 = .ok (.ireturn, 1) := by decide +kernel
theorem dX12_asksActs_22 : decode cX12_asksActs 22 = .ok (.aload_n 0, 1) := by decide +kernel
theorem dX12_asksActs_23 : decode cX12_asksActs 23 = .ok (.getfield 265, 3) := by decide +kernel
theorem dX12_asksActs_26 : decode cX12_asksActs 26 = .ok (.iconst 4, 1) := by decide +kernel
theorem dX12_asksActs_27 : decode cX12_asksActs 27 = .ok (.if_icmp .ne 20, 3) := by decide +kernel
theorem dX12_asksActs_30 : decode cX12_asksActs 30 = .ok (.aload_n 0, 1) := by decide +kernel
theorem dX12_asksActs_31 : decode cX12_asksActs 31 = .ok (.bipush 51, 2) := by decide +kernel
theorem dX12_asksActs_33 : decode cX12_asksActs 33 = .ok (.invokevirtual 259, 3) := by decide +kernel
theorem dX12_asksActs_36 : decode cX12_asksActs 36 = .ok (.aload_n 0, 1) := by decide +kernel
theorem dX12_asksActs_37 : decode cX12_asksActs 37 = .ok (.iload_n 1, 1) := by decide +kernel
theorem dX12_asksActs_38 : decode cX12_asksActs 38 = .ok (.invokevirtual 268, 3) := by decide +kernel
theorem dX12_asksActs_41 : decode cX12_asksActs 41 = .ok (.aload_n 0, 1) := by decide +kernel
theorem dX12_asksActs_42 : decode cX12_asksActs 42 = .ok (.getfield 262, 3) := by decide +kernel
theorem dX12_asksActs_45 : decode cX12_asksActs 45 = .ok (.ixor, 1) := by decide +kernel
theorem dX12_asksActs_46 : decode cX12_asksActs 46 = .ok (.ireturn, 1) := by decide +kernel
theorem dX12_asksActs_47 : decode cX12_asksActs 47 = .ok (.aload_n 0, 1) := by decide +kernel
theorem dX12_asksActs_48 : decode cX12_asksActs 48 = .ok (.iload_n 1, 1) := by decide +kernel
theorem dX12_asksActs_49 : decode cX12_asksActs 49 = .ok (.invokevirtual 268, 3) := by decide +kernel
theorem dX12_asksActs_52 : decode cX12_asksActs 52 = .ok (.ireturn, 1) := by decide +kernel
theorem dX12_plainTakes_0 : decode cX12_plainTakes 0 = .ok (.aload_n 0, 1) := by decide +kernel
theorem dX12_plainTakes_1 : decode cX12_plainTakes 1 = .ok (.iconst 2, 1) := by decide +kernel
theorem dX12_plainTakes_2 : decode cX12_plainTakes 2 = .ok (.invokevirtual 259, 3) := by decide +kernel
theorem dX12_plainTakes_5 : decode cX12_plainTakes 5 = .ok (.aload_n 0, 1) := by decide +kernel
theorem dX12_plainTakes_6 : decode cX12_plainTakes 6 = .ok (.iload_n 1, 1) := by decide +kernel
theorem dX12_plainTakes_7 : decode cX12_plainTakes 7 = .ok (.invokevirtual 271, 3) := by decide +kernel
theorem dX12_plainTakes_10 : decode cX12_plainTakes 10 = .ok (.aload_n 0, 1) := by decide +kernel
theorem dX12_plainTakes_11 : decode cX12_plainTakes 11 = .ok (.getfield 274, 3) := by decide +kernel
theorem dX12_plainTakes_14 : decode cX12_plainTakes 14 = .ok (.isub, 1) := by decide +kernel
theorem dX12_plainTakes_15 : decode cX12_plainTakes 15 = .ok (.ireturn, 1) := by decide +kernel
theorem dX12_takesActs_0 : decode cX12_takesActs 0 = .ok (.aload_n 0, 1) := by decide +kernel
theorem dX12_takesActs_1 : decode cX12_takesActs 1 = .ok (.getfield 265, 3) := by decide +kernel
theorem dX12_takesActs_4 : decode cX12_takesActs 4 = .ok (.bipush 6, 2) := by decide +kernel
theorem dX12_takesActs_6 : decode cX12_takesActs 6 = .ok (.if_icmp .ne 20, 3) := by decide +kernel
theorem dX12_takesActs_9 : decode cX12_takesActs 9 = .ok (.aload_n 0, 1) := by decide +kernel
theorem dX12_takesActs_10 : decode cX12_takesActs 10 = .ok (.bipush 61, 2) := by decide +kernel
theorem dX12_takesActs_12 : decode cX12_takesActs 12 = .ok (.invokevirtual 259, 3) := by decide +kernel
theorem dX12_takesActs_15 : decode cX12_takesActs 15 = .ok (.aload_n 0, 1) := by decide +kernel
theorem dX12_takesActs_16 : decode cX12_takesActs 16 = .ok (.iload_n 1, 1) := by decide +kernel
theorem dX12_takesActs_17 : decode cX12_takesActs 17 = .ok (.invokevirtual 277, 3) := by decide +kernel
theorem dX12_takesActs_20 : decode cX12_takesActs 20 = .ok (.aload_n 0, 1) := by decide +kernel
theorem dX12_takesActs_21 : decode cX12_takesActs 21 = .ok (.getfield 274, 3) := by decide +kernel
theorem dX12_takesActs_24 : decode cX12_takesActs 24 = .ok (.iadd, 1) := by decide +kernel
theorem dX12_takesActs_25 : decode cX12_takesActs 25 = .ok (.ireturn, 1) := by decide +kernel
theorem dX12_takesActs_26 : decode cX12_takesActs 26 = .ok (.aload_n 0, 1) := by decide +kernel
theorem dX12_takesActs_27 : decode cX12_takesActs 27 = .ok (.getfield 265, 3) := by decide +kernel
theorem dX12_takesActs_30 : decode cX12_takesActs 30 = .ok (.iconst 2, 1) := by decide +kernel
theorem dX12_takesActs_31 : decode cX12_takesActs 31 = .ok (.invokestatic 280, 3) := by decide +kernel
theorem dX12_takesActs_34 : decode cX12_takesActs 34 = .ok (.ifCond .eq 16, 3) := by decide +kernel
theorem dX12_takesActs_37 : decode cX12_takesActs 37 = .ok (.aload_n 0, 1) := by decide +kernel
theorem dX12_takesActs_38 : decode cX12_takesActs 38 = .ok (.bipush 21, 2) := by decide +kernel
theorem dX12_takesActs_40 : decode cX12_takesActs 40 = .ok (.invokevirtual 259, 3) := by decide +kernel
theorem dX12_takesActs_43 : decode cX12_takesActs 43 = .ok (.aload_n 0, 1) := by decide +kernel
theorem dX12_takesActs_44 : decode cX12_takesActs 44 = .ok (.iload_n 1, 1) := by decide +kernel
theorem dX12_takesActs_45 : decode cX12_takesActs 45 = .ok (.invokevirtual 277, 3) := by decide +kernel
theorem dX12_takesActs_48 : decode cX12_takesActs 48 = .ok (.ineg, 1) := by decide +kernel
theorem dX12_takesActs_49 : decode cX12_takesActs 49 = .ok (.ireturn, 1) := by decide +kernel
theorem dX12_takesActs_50 : decode cX12_takesActs 50 = .ok (.aload_n 0, 1) := by decide +kernel
theorem dX12_takesActs_51 : decode cX12_takesActs 51 = .ok (.iload_n 1, 1) := by decide +kernel
theorem dX12_takesActs_52 : decode cX12_takesActs 52 = .ok (.invokevirtual 277, 3) := by decide +kernel
theorem dX12_takesActs_55 : decode cX12_takesActs 55 = .ok (.ireturn, 1) := by decide +kernel
theorem dX12_plainWaits_0 : decode cX12_plainWaits 0 = .ok (.aload_n 0, 1) := by decide +kernel
theorem dX12_plainWaits_1 : decode cX12_plainWaits 1 = .ok (.iconst 3, 1) := by decide +kernel
theorem dX12_plainWaits_2 : decode cX12_plainWaits 2 = .ok (.invokevirtual 259, 3) := by decide +kernel
theorem dX12_plainWaits_5 : decode cX12_plainWaits 5 = .ok (.aload_n 0, 1) := by decide +kernel
theorem dX12_plainWaits_6 : decode cX12_plainWaits 6 = .ok (.iload_n 1, 1) := by decide +kernel
theorem dX12_plainWaits_7 : decode cX12_plainWaits 7 = .ok (.invokevirtual 283, 3) := by decide +kernel
theorem dX12_plainWaits_10 : decode cX12_plainWaits 10 = .ok (.iconst 2, 1) := by decide +kernel
theorem dX12_plainWaits_11 : decode cX12_plainWaits 11 = .ok (.imul, 1) := by decide +kernel
theorem dX12_plainWaits_12 : decode cX12_plainWaits 12 = .ok (.ireturn, 1) := by decide +kernel
theorem dX12_waitsActs_0 : decode cX12_waitsActs 0 = .ok (.aload_n 0, 1) := by decide +kernel
theorem dX12_waitsActs_1 : decode cX12_waitsActs 1 = .ok (.getfield 265, 3) := by decide +kernel
theorem dX12_waitsActs_4 : decode cX12_waitsActs 4 = .ok (.iconst 3, 1) := by decide +kernel
theorem dX12_waitsActs_5 : decode cX12_waitsActs 5 = .ok (.if_icmp .ne 25, 3) := by decide +kernel
theorem dX12_waitsActs_8 : decode cX12_waitsActs 8 = .ok (.aload_n 0, 1) := by decide +kernel
theorem dX12_waitsActs_9 : decode cX12_waitsActs 9 = .ok (.bipush 41, 2) := by decide +kernel
theorem dX12_waitsActs_11 : decode cX12_waitsActs 11 = .ok (.invokevirtual 259, 3) := by decide +kernel
theorem dX12_waitsActs_14 : decode cX12_waitsActs 14 = .ok (.aload_n 0, 1) := by decide +kernel
theorem dX12_waitsActs_15 : decode cX12_waitsActs 15 = .ok (.iload_n 1, 1) := by decide +kernel
theorem dX12_waitsActs_16 : decode cX12_waitsActs 16 = .ok (.iconst 1, 1) := by decide +kernel
theorem dX12_waitsActs_17 : decode cX12_waitsActs 17 = .ok (.isub, 1) := by decide +kernel
theorem dX12_waitsActs_18 : decode cX12_waitsActs 18 = .ok (.invokevirtual 286, 3) := by decide +kernel
theorem dX12_waitsActs_21 : decode cX12_waitsActs 21 = .ok (.istore_n 2, 1) := by decide +kernel
theorem dX12_waitsActs_22 : decode cX12_waitsActs 22 = .ok (.iload_n 2, 1) := by decide +kernel
theorem dX12_waitsActs_23 : decode cX12_waitsActs 23 = .ok (.aload_n 0, 1) := by decide +kernel
theorem dX12_waitsActs_24 : decode cX12_waitsActs 24 = .ok (.iconst 2, 1) := by decide +kernel
theorem dX12_waitsActs_25 : decode cX12_waitsActs 25 = .ok (.invokevirtual 271, 3) := by decide +kernel
theorem dX12_waitsActs_28 : decode cX12_waitsActs 28 = .ok (.iadd, 1) := by decide +kernel
theorem dX12_waitsActs_29 : decode cX12_waitsActs 29 = .ok (.ireturn, 1) := by decide +kernel
theorem dX12_waitsActs_30 : decode cX12_waitsActs 30 = .ok (.aload_n 0, 1) := by decide +kernel
theorem dX12_waitsActs_31 : decode cX12_waitsActs 31 = .ok (.getfield 265, 3) := by decide +kernel
theorem dX12_waitsActs_34 : decode cX12_waitsActs 34 = .ok (.iconst 5, 1) := by decide +kernel
theorem dX12_waitsActs_35 : decode cX12_waitsActs 35 = .ok (.invokestatic 280, 3) := by decide +kernel
theorem dX12_waitsActs_38 : decode cX12_waitsActs 38 = .ok (.ifCond .eq 18, 3) := by decide +kernel
theorem dX12_waitsActs_41 : decode cX12_waitsActs 41 = .ok (.aload_n 0, 1) := by decide +kernel
theorem dX12_waitsActs_42 : decode cX12_waitsActs 42 = .ok (.bipush 31, 2) := by decide +kernel
theorem dX12_waitsActs_44 : decode cX12_waitsActs 44 = .ok (.invokevirtual 259, 3) := by decide +kernel
theorem dX12_waitsActs_47 : decode cX12_waitsActs 47 = .ok (.aload_n 0, 1) := by decide +kernel
theorem dX12_waitsActs_48 : decode cX12_waitsActs 48 = .ok (.iload_n 1, 1) := by decide +kernel
theorem dX12_waitsActs_49 : decode cX12_waitsActs 49 = .ok (.invokevirtual 286, 3) := by decide +kernel
theorem dX12_waitsActs_52 : decode cX12_waitsActs 52 = .ok (.bipush 7, 2) := by decide +kernel
theorem dX12_waitsActs_54 : decode cX12_waitsActs 54 = .ok (.ixor, 1) := by decide +kernel
theorem dX12_waitsActs_55 : decode cX12_waitsActs 55 = .ok (.ireturn, 1) := by decide +kernel
theorem dX12_waitsActs_56 : decode cX12_waitsActs 56 = .ok (.aload_n 0, 1) := by decide +kernel
theorem dX12_waitsActs_57 : decode cX12_waitsActs 57 = .ok (.iload_n 1, 1) := by decide +kernel
theorem dX12_waitsActs_58 : decode cX12_waitsActs 58 = .ok (.invokevirtual 286, 3) := by decide +kernel
theorem dX12_waitsActs_61 : decode cX12_waitsActs 61 = .ok (.ireturn, 1) := by decide +kernel
theorem dX12_act_0 : decode cX12_act 0 = .ok (.aload_n 0, 1) := by decide +kernel
theorem dX12_act_1 : decode cX12_act 1 = .ok (.iconst 0, 1) := by decide +kernel
theorem dX12_act_2 : decode cX12_act 2 = .ok (.putfield 256, 3) := by decide +kernel
theorem dX12_act_5 : decode cX12_act 5 = .ok (.aload_n 0, 1) := by decide +kernel
theorem dX12_act_6 : decode cX12_act 6 = .ok (.iload_n 1, 1) := by decide +kernel
theorem dX12_act_7 : decode cX12_act 7 = .ok (.invokevirtual 60, 3) := by decide +kernel
theorem dX12_act_10 : decode cX12_act 10 = .ok (.ifCond .eq 12, 3) := by decide +kernel
theorem dX12_act_13 : decode cX12_act 13 = .ok (.iload_n 2, 1) := by decide +kernel
theorem dX12_act_14 : decode cX12_act 14 = .ok (.iconst 0, 1) := by decide +kernel
theorem dX12_act_15 : decode cX12_act 15 = .ok (.iconst 2, 1) := by decide +kernel
theorem dX12_act_16 : decode cX12_act 16 = .ok (.invokestatic 48, 3) := by decide +kernel
theorem dX12_act_19 : decode cX12_act 19 = .ok (.ifCond .ne 5, 3) := by decide +kernel
theorem dX12_act_22 : decode cX12_act 22 = .ok (.iconst 0, 1) := by decide +kernel
theorem dX12_act_23 : decode cX12_act 23 = .ok (.ireturn, 1) := by decide +kernel
theorem dX12_act_24 : decode cX12_act 24 = .ok (.aload_n 0, 1) := by decide +kernel
theorem dX12_act_25 : decode cX12_act 25 = .ok (.aload_n 0, 1) := by decide +kernel
theorem dX12_act_26 : decode cX12_act 26 = .ok (.getfield 9, 3) := by decide +kernel
theorem dX12_act_29 : decode cX12_act 29 = .ok (.sipush 166, 3) := by decide +kernel
theorem dX12_act_32 : decode cX12_act 32 = .ok (.iload_n 1, 1) := by decide +kernel
theorem dX12_act_33 : decode cX12_act 33 = .ok (.iadd, 1) := by decide +kernel
theorem dX12_act_34 : decode cX12_act 34 = .ok (.iaload, 1) := by decide +kernel
theorem dX12_act_35 : decode cX12_act 35 = .ok (.putfield 265, 3) := by decide +kernel
theorem dX12_act_38 : decode cX12_act 38 = .ok (.aload_n 0, 1) := by decide +kernel
theorem dX12_act_39 : decode cX12_act 39 = .ok (.iload_n 1, 1) := by decide +kernel
theorem dX12_act_40 : decode cX12_act 40 = .ok (.putfield 262, 3) := by decide +kernel
theorem dX12_act_43 : decode cX12_act 43 = .ok (.aload_n 0, 1) := by decide +kernel
theorem dX12_act_44 : decode cX12_act 44 = .ok (.aload_n 0, 1) := by decide +kernel
theorem dX12_act_45 : decode cX12_act 45 = .ok (.getfield 9, 3) := by decide +kernel
theorem dX12_act_48 : decode cX12_act 48 = .ok (.sipush 172, 3) := by decide +kernel
theorem dX12_act_51 : decode cX12_act 51 = .ok (.iload_n 1, 1) := by decide +kernel
theorem dX12_act_52 : decode cX12_act 52 = .ok (.iadd, 1) := by decide +kernel
theorem dX12_act_53 : decode cX12_act 53 = .ok (.iaload, 1) := by decide +kernel
theorem dX12_act_54 : decode cX12_act 54 = .ok (.putfield 274, 3) := by decide +kernel
theorem dX12_act_57 : decode cX12_act 57 = .ok (.iload_n 2, 1) := by decide +kernel
theorem dX12_act_58 : decode cX12_act 58 = .ok (.ifCond .ne 11, 3) := by decide +kernel
theorem dX12_act_61 : decode cX12_act 61 = .ok (.aload_n 0, 1) := by decide +kernel
theorem dX12_act_62 : decode cX12_act 62 = .ok (.iload_n 3, 1) := by decide +kernel
theorem dX12_act_63 : decode cX12_act 63 = .ok (.invokevirtual 271, 3) := by decide +kernel
theorem dX12_act_66 : decode cX12_act 66 = .ok (.goto 21, 3) := by decide +kernel
theorem dX12_act_69 : decode cX12_act 69 = .ok (.iload_n 2, 1) := by decide +kernel
theorem dX12_act_70 : decode cX12_act 70 = .ok (.iconst 1, 1) := by decide +kernel
theorem dX12_act_71 : decode cX12_act 71 = .ok (.if_icmp .ne 11, 3) := by decide +kernel
theorem dX12_act_74 : decode cX12_act 74 = .ok (.aload_n 0, 1) := by decide +kernel
theorem dX12_act_75 : decode cX12_act 75 = .ok (.iload_n 3, 1) := by decide +kernel
theorem dX12_act_76 : decode cX12_act 76 = .ok (.invokevirtual 283, 3) := by decide +kernel
theorem dX12_act_79 : decode cX12_act 79 = .ok (.goto 8, 3) := by decide +kernel
theorem dX12_act_82 : decode cX12_act 82 = .ok (.aload_n 0, 1) := by decide +kernel
theorem dX12_act_83 : decode cX12_act 83 = .ok (.iload_n 3, 1) := by decide +kernel
theorem dX12_act_84 : decode cX12_act 84 = .ok (.invokevirtual 289, 3) := by decide +kernel
theorem dX12_act_87 : decode cX12_act 87 = .ok (.ireturn, 1) := by decide +kernel
theorem dX12_trace_0 : decode cX12_trace 0 = .ok (.iload_n 1, 1) := by decide +kernel
theorem dX12_trace_1 : decode cX12_trace 1 = .ok (.iconst 0, 1) := by decide +kernel
theorem dX12_trace_2 : decode cX12_trace 2 = .ok (.aload_n 0, 1) := by decide +kernel
theorem dX12_trace_3 : decode cX12_trace 3 = .ok (.getfield 256, 3) := by decide +kernel
theorem dX12_trace_6 : decode cX12_trace 6 = .ok (.bipush 20, 2) := by decide +kernel
theorem dX12_trace_8 : decode cX12_trace 8 = .ok (.if_icmp .ge 10, 3) := by decide +kernel
theorem dX12_trace_11 : decode cX12_trace 11 = .ok (.aload_n 0, 1) := by decide +kernel
theorem dX12_trace_12 : decode cX12_trace 12 = .ok (.getfield 256, 3) := by decide +kernel
theorem dX12_trace_15 : decode cX12_trace 15 = .ok (.goto 5, 3) := by decide +kernel
theorem dX12_trace_18 : decode cX12_trace 18 = .ok (.bipush 20, 2) := by decide +kernel
theorem dX12_trace_20 : decode cX12_trace 20 = .ok (.iconst 1, 1) := by decide +kernel
theorem dX12_trace_21 : decode cX12_trace 21 = .ok (.isub, 1) := by decide +kernel
theorem dX12_trace_22 : decode cX12_trace 22 = .ok (.invokestatic 48, 3) := by decide +kernel
theorem dX12_trace_25 : decode cX12_trace 25 = .ok (.ifCond .eq 12, 3) := by decide +kernel
theorem dX12_trace_28 : decode cX12_trace 28 = .ok (.aload_n 0, 1) := by decide +kernel
theorem dX12_trace_29 : decode cX12_trace 29 = .ok (.getfield 42, 3) := by decide +kernel
theorem dX12_trace_32 : decode cX12_trace 32 = .ok (.iload_n 1, 1) := by decide +kernel
theorem dX12_trace_33 : decode cX12_trace 33 = .ok (.iaload, 1) := by decide +kernel
theorem dX12_trace_34 : decode cX12_trace 34 = .ok (.goto 4, 3) := by decide +kernel
theorem dX12_trace_37 : decode cX12_trace 37 = .ok (.iconst (-1), 1) := by decide +kernel
theorem dX12_trace_38 : decode cX12_trace 38 = .ok (.ireturn, 1) := by decide +kernel
theorem dX12_as_0 : decode cX12_as 0 = .ok (.aload_n 0, 1) := by decide +kernel
theorem dX12_as_1 : decode cX12_as 1 = .ok (.iload_n 1, 1) := by decide +kernel
theorem dX12_as_2 : decode cX12_as 2 = .ok (.invokevirtual 60, 3) := by decide +kernel
theorem dX12_as_5 : decode cX12_as 5 = .ok (.ifCond .eq 13, 3) := by decide +kernel
theorem dX12_as_8 : decode cX12_as 8 = .ok (.iload_n 2, 1) := by decide +kernel
theorem dX12_as_9 : decode cX12_as 9 = .ok (.iconst 0, 1) := by decide +kernel
theorem dX12_as_10 : decode cX12_as 10 = .ok (.bipush 6, 2) := by decide +kernel
theorem dX12_as_12 : decode cX12_as 12 = .ok (.invokestatic 48, 3) := by decide +kernel
theorem dX12_as_15 : decode cX12_as 15 = .ok (.ifCond .ne 5, 3) := by decide +kernel
theorem dX12_as_18 : decode cX12_as 18 = .ok (.iconst (-1), 1) := by decide +kernel
theorem dX12_as_19 : decode cX12_as 19 = .ok (.ireturn, 1) := by decide +kernel
theorem dX12_as_20 : decode cX12_as 20 = .ok (.aload_n 0, 1) := by decide +kernel
theorem dX12_as_21 : decode cX12_as 21 = .ok (.getfield 9, 3) := by decide +kernel
theorem dX12_as_24 : decode cX12_as 24 = .ok (.sipush 166, 3) := by decide +kernel
theorem dX12_as_27 : decode cX12_as 27 = .ok (.iload_n 1, 1) := by decide +kernel
theorem dX12_as_28 : decode cX12_as 28 = .ok (.iadd, 1) := by decide +kernel
theorem dX12_as_29 : decode cX12_as 29 = .ok (.iaload, 1) := by decide +kernel
theorem dX12_as_30 : decode cX12_as 30 = .ok (.iload_n 2, 1) := by decide +kernel
theorem dX12_as_31 : decode cX12_as 31 = .ok (.invokestatic 280, 3) := by decide +kernel
theorem dX12_as_34 : decode cX12_as 34 = .ok (.ifCond .eq 16, 3) := by decide +kernel
theorem dX12_as_37 : decode cX12_as 37 = .ok (.aload_n 0, 1) := by decide +kernel
theorem dX12_as_38 : decode cX12_as 38 = .ok (.getfield 9, 3) := by decide +kernel
theorem dX12_as_41 : decode cX12_as 41 = .ok (.sipush 172, 3) := by decide +kernel
theorem dX12_as_44 : decode cX12_as 44 = .ok (.iload_n 1, 1) := by decide +kernel
theorem dX12_as_45 : decode cX12_as 45 = .ok (.iadd, 1) := by decide +kernel
theorem dX12_as_46 : decode cX12_as 46 = .ok (.iaload, 1) := by decide +kernel
theorem dX12_as_47 : decode cX12_as 47 = .ok (.goto 5, 3) := by decide +kernel
theorem dX12_as_50 : decode cX12_as 50 = .ok (.bipush (-6), 2) := by decide +kernel
theorem dX12_as_52 : decode cX12_as 52 = .ok (.ireturn, 1) := by decide +kernel
theorem dX12_image_0 : decode cX12_image 0 = .ok (.iconst 0, 1) := by decide +kernel
theorem dX12_image_1 : decode cX12_image 1 = .ok (.istore_n 1, 1) := by decide +kernel
theorem dX12_image_2 : decode cX12_image 2 = .ok (.iload_n 1, 1) := by decide +kernel
theorem dX12_image_3 : decode cX12_image 3 = .ok (.sipush 965, 3) := by decide +kernel
theorem dX12_image_6 : decode cX12_image 6 = .ok (.if_icmp .ge 21, 3) := by decide +kernel
theorem dX12_image_9 : decode cX12_image 9 = .ok (.aload_n 0, 1) := by decide +kernel
theorem dX12_image_10 : decode cX12_image 10 = .ok (.getfield 15, 3) := by decide +kernel
theorem dX12_image_13 : decode cX12_image 13 = .ok (.iload_n 1, 1) := by decide +kernel
theorem dX12_image_14 : decode cX12_image 14 = .ok (.aload_n 0, 1) := by decide +kernel
theorem dX12_image_15 : decode cX12_image 15 = .ok (.getfield 9, 3) := by decide +kernel
theorem dX12_image_18 : decode cX12_image 18 = .ok (.iload_n 1, 1) := by decide +kernel
theorem dX12_image_19 : decode cX12_image 19 = .ok (.iaload, 1) := by decide +kernel
theorem dX12_image_20 : decode cX12_image 20 = .ok (.iastore, 1) := by decide +kernel
theorem dX12_image_21 : decode cX12_image 21 = .ok (.iinc 1 1, 3) := by decide +kernel
theorem dX12_image_24 : decode cX12_image 24 = .ok (.goto (-22), 3) := by decide +kernel
theorem dX12_image_27 : decode cX12_image 27 = .ok (.aload_n 0, 1) := by decide +kernel
theorem dX12_image_28 : decode cX12_image 28 = .ok (.iconst 1, 1) := by decide +kernel
theorem dX12_image_29 : decode cX12_image 29 = .ok (.putfield 292, 3) := by decide +kernel
theorem dX12_image_32 : decode cX12_image 32 = .ok (.aload_n 0, 1) := by decide +kernel
theorem dX12_image_33 : decode cX12_image 33 = .ok (.getfield 9, 3) := by decide +kernel
theorem dX12_image_36 : decode cX12_image 36 = .ok (.iconst 2, 1) := by decide +kernel
theorem dX12_image_37 : decode cX12_image 37 = .ok (.iaload, 1) := by decide +kernel
theorem dX12_image_38 : decode cX12_image 38 = .ok (.ireturn, 1) := by decide +kernel
theorem dX12_undo_0 : decode cX12_undo 0 = .ok (.aload_n 0, 1) := by decide +kernel
theorem dX12_undo_1 : decode cX12_undo 1 = .ok (.getfield 292, 3) := by decide +kernel
theorem dX12_undo_4 : decode cX12_undo 4 = .ok (.ifCond .ne 6, 3) := by decide +kernel
theorem dX12_undo_7 : decode cX12_undo 7 = .ok (.bipush (-3), 2) := by decide +kernel
theorem dX12_undo_9 : decode cX12_undo 9 = .ok (.ireturn, 1) := by decide +kernel
theorem dX12_undo_10 : decode cX12_undo 10 = .ok (.iconst 0, 1) := by decide +kernel
theorem dX12_undo_11 : decode cX12_undo 11 = .ok (.istore_n 1, 1) := by decide +kernel
theorem dX12_undo_12 : decode cX12_undo 12 = .ok (.iload_n 1, 1) := by decide +kernel
theorem dX12_undo_13 : decode cX12_undo 13 = .ok (.sipush 965, 3) := by decide +kernel
theorem dX12_undo_16 : decode cX12_undo 16 = .ok (.if_icmp .ge 21, 3) := by decide +kernel
theorem dX12_undo_19 : decode cX12_undo 19 = .ok (.aload_n 0, 1) := by decide +kernel
theorem dX12_undo_20 : decode cX12_undo 20 = .ok (.getfield 9, 3) := by decide +kernel
theorem dX12_undo_23 : decode cX12_undo 23 = .ok (.iload_n 1, 1) := by decide +kernel
theorem dX12_undo_24 : decode cX12_undo 24 = .ok (.aload_n 0, 1) := by decide +kernel
theorem dX12_undo_25 : decode cX12_undo 25 = .ok (.getfield 15, 3) := by decide +kernel
theorem dX12_undo_28 : decode cX12_undo 28 = .ok (.iload_n 1, 1) := by decide +kernel
theorem dX12_undo_29 : decode cX12_undo 29 = .ok (.iaload, 1) := by decide +kernel
theorem dX12_undo_30 : decode cX12_undo 30 = .ok (.iastore, 1) := by decide +kernel
theorem dX12_undo_31 : decode cX12_undo 31 = .ok (.iinc 1 1, 3) := by decide +kernel
theorem dX12_undo_34 : decode cX12_undo 34 = .ok (.goto (-22), 3) := by decide +kernel
theorem dX12_undo_37 : decode cX12_undo 37 = .ok (.aload_n 0, 1) := by decide +kernel
theorem dX12_undo_38 : decode cX12_undo 38 = .ok (.getfield 9, 3) := by decide +kernel
theorem dX12_undo_41 : decode cX12_undo 41 = .ok (.iconst 2, 1) := by decide +kernel
theorem dX12_undo_42 : decode cX12_undo 42 = .ok (.iaload, 1) := by decide +kernel
theorem dX12_undo_43 : decode cX12_undo 43 = .ok (.ireturn, 1) := by decide +kernel
theorem dX12_count_0 : decode cX12_count 0 = .ok (.iload_n 1, 1) := by decide +kernel
theorem dX12_count_1 : decode cX12_count 1 = .ok (.tableswitch 90 0 6 #[43, 50, 57, 64, 71, 78, 85], 43) := by decide +kernel
theorem dX12_count_44 : decode cX12_count 44 = .ok (.aload_n 0, 1) := by decide +kernel
theorem dX12_count_45 : decode cX12_count 45 = .ok (.getfield 9, 3) := by decide +kernel
theorem dX12_count_48 : decode cX12_count 48 = .ok (.iconst 0, 1) := by decide +kernel
theorem dX12_count_49 : decode cX12_count 49 = .ok (.iaload, 1) := by decide +kernel
theorem dX12_count_50 : decode cX12_count 50 = .ok (.ireturn, 1) := by decide +kernel
theorem dX12_count_51 : decode cX12_count 51 = .ok (.aload_n 0, 1) := by decide +kernel
theorem dX12_count_52 : decode cX12_count 52 = .ok (.getfield 9, 3) := by decide +kernel
theorem dX12_count_55 : decode cX12_count 55 = .ok (.iconst 1, 1) := by decide +kernel
theorem dX12_count_56 : decode cX12_count 56 = .ok (.iaload, 1) := by decide +kernel
theorem dX12_count_57 : decode cX12_count 57 = .ok (.ireturn, 1) := by decide +kernel
theorem dX12_count_58 : decode cX12_count 58 = .ok (.aload_n 0, 1) := by decide +kernel
theorem dX12_count_59 : decode cX12_count 59 = .ok (.getfield 9, 3) := by decide +kernel
theorem dX12_count_62 : decode cX12_count 62 = .ok (.iconst 2, 1) := by decide +kernel
theorem dX12_count_63 : decode cX12_count 63 = .ok (.iaload, 1) := by decide +kernel
theorem dX12_count_64 : decode cX12_count 64 = .ok (.ireturn, 1) := by decide +kernel
theorem dX12_count_65 : decode cX12_count 65 = .ok (.aload_n 0, 1) := by decide +kernel
theorem dX12_count_66 : decode cX12_count 66 = .ok (.getfield 9, 3) := by decide +kernel
theorem dX12_count_69 : decode cX12_count 69 = .ok (.iconst 3, 1) := by decide +kernel
theorem dX12_count_70 : decode cX12_count 70 = .ok (.iaload, 1) := by decide +kernel
theorem dX12_count_71 : decode cX12_count 71 = .ok (.ireturn, 1) := by decide +kernel
theorem dX12_count_72 : decode cX12_count 72 = .ok (.aload_n 0, 1) := by decide +kernel
theorem dX12_count_73 : decode cX12_count 73 = .ok (.getfield 9, 3) := by decide +kernel
theorem dX12_count_76 : decode cX12_count 76 = .ok (.iconst 4, 1) := by decide +kernel
theorem dX12_count_77 : decode cX12_count 77 = .ok (.iaload, 1) := by decide +kernel
theorem dX12_count_78 : decode cX12_count 78 = .ok (.ireturn, 1) := by decide +kernel
theorem dX12_count_79 : decode cX12_count 79 = .ok (.aload_n 0, 1) := by decide +kernel
theorem dX12_count_80 : decode cX12_count 80 = .ok (.getfield 9, 3) := by decide +kernel
theorem dX12_count_83 : decode cX12_count 83 = .ok (.iconst 5, 1) := by decide +kernel
theorem dX12_count_84 : decode cX12_count 84 = .ok (.iaload, 1) := by decide +kernel
theorem dX12_count_85 : decode cX12_count 85 = .ok (.ireturn, 1) := by decide +kernel
theorem dX12_count_86 : decode cX12_count 86 = .ok (.aload_n 0, 1) := by decide +kernel
theorem dX12_count_87 : decode cX12_count 87 = .ok (.getfield 256, 3) := by decide +kernel
theorem dX12_count_90 : decode cX12_count 90 = .ok (.ireturn, 1) := by decide +kernel
theorem dX12_count_91 : decode cX12_count 91 = .ok (.iconst (-1), 1) := by decide +kernel
theorem dX12_count_92 : decode cX12_count 92 = .ok (.ireturn, 1) := by decide +kernel
